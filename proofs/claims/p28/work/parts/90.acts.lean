/-! What else the law does: drop, again, finish, pass; all of acts. -/
theorem K625 {v : CV} {g e f l : FF} {V : Nat} {u2 : Int32} (hJ : JJ v g e f l) (hu : UE g u2) (p0 : Int32) : AK (k_L_acts_625 g e f l v u2 (nI V) p0) := by
  obtain ⟨s, n, m, k, hJ⟩ := hJ
  have hJ' := hJ
  obtain ⟨h0, hl, hin, hS, hR, hEN, hOV, hBG⟩ := hJ
  have hR' := hR
  have hA := hR.2
  obtain ⟨⟨r1, r2, r3, g0, g1, g2, g3, g6, g7, g8, s7, s8, s9, hE, hF, hN⟩, -⟩ := hR
  obtain ⟨hu0, hu1⟩ := hu n r1 g0
  unfold k_L_acts_625
  by_cases hn0 : n = 0
  · subst hn0
    have hg : g 0 = 0 := g0
    have hh : f_X0_has v.1.1 0 = some false := by
      rcases x0has h0.1 0 with ⟨-, j, hj, -⟩ | ⟨q, -⟩
      · exact absurd hj (Nat.not_lt_zero _)
      · exact q
    have hf : fa_L_drops v 0 = some (-2000001, v) := by
      unfold fa_L_drops f_X6_drop
      rw [hh, Option.bind_some, if_pos zb0]
      rfl
    rw [if_pos hg, hu0 rfl, hf, Option.bind_some, if_pos hg, if_pos rfl]
    exact ⟨_, _, _, _, _, rfl, s, 0, m, k, hJ'⟩
  · obtain ⟨i, hi, rfl⟩ := hu1 hn0
    have hne : ¬ g 0 = 0 := by
      rw [g0]
      show ¬ nI n = nI 0
      rw [nI_eq (by omega) (by omega)]; exact hn0
    have hh : f_X0_has v.1.1 (nI i) = some true := hasN h0.1 hi
    have hwt := wt0 h0.1 hi
    rw [if_neg hne, l53, if_pos (zin_n (by omega) (by omega)), cl_n (by omega), EL3 hE hi]
    by_cases hs : pS s i = 0
    · rw [decide_eq_true hs] at hwt
      obtain ⟨q', c', w1, w2⟩ := sv8 hS
      obtain ⟨h', s', k1, k2, k3, k4, k5, k6, k7⟩ := let2 (u := (s, u20)) h0 (LB_t hl) hin hi hs
      obtain ⟨l', p1, -, p3⟩ := Lle (u := (s, u20)) hR' hi k2
      have k7' : ∀ j : Nat, j < 100 → j ≠ 9 → j ≠ 10 + 5 * i + 3 → s' j = s j := k7
      have p3' : RW (upd g 8 (nI (k + 1))) (upd e (5 * i + 3) 3) f l' s' n m (k + 1) := p3
      have hcls : fn_X6_drop v (nI i) = some (pCn (pS s') 0 n 0 0, (h', v.2.1, q', c', v.2.2.2.2)) := by
        unfold fn_X6_drop
        rw [hh, Option.bind_some, if_neg zb1, hwt, Option.bind_some, if_neg zb1, w1, Option.bind_some]
        dsimp only
        rw [k1, Option.bind_some, cn0 k3.1, Option.bind_some]
      rw [if_pos hs, if_pos (zin_n (by omega) (by omega)), p1, Option.bind_some, hcls, Option.bind_some]
      dsimp only
      rw [Lin r1 p3'.1.2.2.2.1 p3'.1.2.2.2.2.2.2.2.2.2.2.2.2.2.1 0, Option.bind_some, if_pos rfl]
      refine ⟨_, _, _, _, _, rfl, s', n, m, k + 1, k3, k4.2.2.2 trivial, k5, w2, p3', EN_cg hEN (AIR_a hA) (by omega) (by omega) (k7' 2 (by omega) (by omega) (by omega)) (k7' 3 (by omega) (by omega) (by omega)) (k7' 4 (by omega) (by omega) (by omega)) (fun a ha z => ?_), fun q => ?_, BG_cg hBG (fun a ha => k7' _ (by omega) (by omega) (by omega))⟩
      · have hai : a ≠ i := fun w => by
          rw [w, hs] at z
          exact absurd z (by decide)
        exact ⟨k7' _ (by omega) (by omega) (by omega), k7' _ (by omega) (by omega) (by omega), k7' _ (by omega) (by omega) (by omega)⟩
      · rw [k7' 1 (by omega) (by omega) (by omega)] at q
        exact (k7' 2 (by omega) (by omega) (by omega)).trans (hOV q)
    · rw [decide_eq_false hs] at hwt
      have hf : fa_L_drops v (nI i) = some (-2000003, v) := by
        unfold fa_L_drops f_X6_drop
        rw [hh, Option.bind_some, if_neg zb1, hwt, Option.bind_some, if_pos zb0]
        rfl
      rw [if_neg hs, hf, Option.bind_some, if_neg hne, if_pos rfl]
      exact ⟨_, _, _, _, _, rfl, s, n, m, k, hJ'⟩
/-- time goes on in the class and in the law -/
theorem Kgo {v : CV} {g e f l s : FF} {n m k lN T sec : Nat} {L : Int32} (hJ : JR v g e f l s n m k) (hsec : s 0 = nI sec) (hsec2 : sec ≤ 90000) (hT : sec + lN = T) (hL : pLim L T) (hlN : lN ≤ 1000000) :
    ∃ (h' : HV) (q' : QV) (c' : Int32) (s' : FF) (k' sec' lN' : Nat) (g' e' f' l' : FF), f_X6_save v = some (v.1, v.2.1, q', c', v.2.2.2.2) ∧ f_X2_runTo v.1 L = some h' ∧ f_L_goes g e f l (nI lN) = some (nI (lN - lN'), g', e', f', l') ∧ JR (h', v.2.1, q', c', v.2.2.2.2) g' e' f' l' s' n m k' ∧ s' 0 = nI sec' ∧ sec' + lN' = T ∧ lN' ≤ lN := by
  obtain ⟨h0, hl, hin, hS, hR, hEN, hOV, hBG⟩ := hJ
  obtain ⟨q', c', w1, w2⟩ := sv8 hS
  obtain ⟨h', s', k', sec', lN', g', e', f', l', a1, a2, a3, a4, a5, a6, a7, a8, a9, a10, a11, a12, a13⟩ := Lrun u20 h0 (LB_t hl) hin hR hEN hOV hBG hsec (by omega) hT hL hlN
  exact ⟨h', q', c', s', k', sec', lN', g', e', f', l', w1, a1, a2, ⟨a3, a4.2.2.2 trivial, a5, w2, a6, a11, a12, a13⟩, a7, a9, a10⟩
theorem sec_r {s : FF} {n m k : Nat} (hn : n ≤ 12) (hm : m ≤ 10) (h : pIn s n m k) : ∃ sec : Nat, s 0 = nI sec ∧ sec ≤ 90000 := by
  obtain ⟨-, -, -, sec, b1, b2, -⟩ := h
  have aE : pCE s n ≤ n := pC_le _ n
  have aF : pCF s m ≤ m := pC_le _ m
  exact ⟨sec, b1, by omega⟩
theorem K913 {v : CV} {g e f l : FF} {V : Nat} {u2 : Int32} (hJ : JJ v g e f l) (p0 : Int32) : AK (k_L_acts_913 g e f l v u2 (nI V) p0) := by
  obtain ⟨s, n, m, k, hJ⟩ := hJ
  unfold k_L_acts_913
  by_cases hc : (nI V - nI V / 3 * 3) ≤ 0
  · rw [if_pos hc]
    obtain ⟨sec, b1, b2⟩ := sec_r hJ.1.1.1 hJ.1.2.1.1 hJ.2.2.1
    obtain ⟨h', q', c', s', k', sec', lN', g', e', f', l', w1, a1, a2, a3, a4, a5, a6⟩ := Kgo (lN := 1000000) (L := 1000000) hJ b1 b2 rfl (Or.inr ⟨rfl, by omega, by omega⟩) (Nat.le_refl _)
    have a2' : f_L_goes g e f l 1000000 = some (nI (1000000 - lN'), g', e', f', l') := a2
    have hcls : f_X6_finish v = some (h'.2.2.2.1 - 3600, (h', v.2.1, q', c', v.2.2.2.2)) := by
      unfold f_X6_finish
      rw [w1, Option.bind_some]
      dsimp only
      rw [a1, Option.bind_some]
    have hsec : h'.2.2.2.1 = g' 2 := a3.1.2.2.1.trans a3.2.2.2.2.1.1.2.2.2.2.2.1.symm
    rw [a2', Option.bind_some, hcls, Option.bind_some, hsec, if_pos rfl]
    exact ⟨_, _, _, _, _, rfl, s', n, m, k', a3⟩
  · rw [if_neg hc]
    have hf : fa_L_passes v 0 = some (-2000002, v) := by
      unfold fa_L_passes f_X6_pass
      rw [if_pos (by decide)]
      rfl
    have hf2 : fa_L_passes v 3601 = some (-2000002, v) := by
      unfold fa_L_passes f_X6_pass
      rw [if_neg (by decide), if_neg (by decide)]
      rfl
    rw [hf, Option.bind_some, if_pos rfl, hf2, Option.bind_some, if_pos rfl]
    exact ⟨_, _, _, _, _, rfl, s, n, m, k, hJ⟩
theorem K980 {v : CV} {g e f l : FF} {V : Nat} {u2 : Int32} (hJ : JJ v g e f l) (hV : V < 10000000) (p0 : Int32) : AK (k_L_acts_980 g e f l v u2 (nI V) p0) := by
  obtain ⟨s, n, m, k, hJ⟩ := hJ
  obtain ⟨M, hM, hM1, hM2⟩ : ∃ M : Nat, (if (nI V - nI V / 4 * 4) = 0 then some 3600 else some 500 : Option Int32) = some (nI M) ∧ 1 ≤ M ∧ M ≤ 3600 := by
    by_cases hc : (nI V - nI V / 4 * 4) = 0
    · exact ⟨3600, by rw [if_pos hc]; rfl, by omega, by omega⟩
    · exact ⟨500, by rw [if_neg hc]; rfl, by omega, by omega⟩
  have hMn : ¬ nI M = 0 := (show ¬ nI M = nI 0 from by rw [nI_eq (by omega) (by omega)]; omega)
  have hlen : 1 + (nI V - nI V / nI M * nI M) = nI (1 + V % M) := by
    rw [rmd (by omega) M (by omega) (by omega), show (1 : Int32) = nI 1 from rfl, nI_add]
  have hmod : V % M < M := Nat.mod_lt _ (by omega)
  unfold k_L_acts_980
  rw [hM, Option.bind_some, if_neg hMn, hlen]
  have hL1 : 1 ≤ 1 + V % M := by omega
  have hL2 : 1 + V % M ≤ 3600 := by omega
  generalize 1 + V % M = L at *
  obtain ⟨sec, b1, b2⟩ := sec_r hJ.1.1.1 hJ.1.2.1.1 hJ.2.2.1
  obtain ⟨h', q', c', s', k', sec', lN', g', e', f', l', w1, a1, a2, a3, a4, a5, a6⟩ := Kgo (lN := L) (L := nI (sec + L)) hJ b1 b2 rfl (Or.inl ⟨rfl, by omega⟩) (by omega)
  have hs0 : v.1.2.2.2.1 = nI sec := hJ.1.2.2.1.trans b1
  have hs1 : h'.2.2.2.1 = nI sec' := a3.1.2.2.1.trans a4
  have hcls : fn_X6_pass v (nI L) = some (nI (L - lN'), (h', v.2.1, q', c', v.2.2.2.2)) := by
    unfold fn_X6_pass
    rw [if_neg (show ¬ nI L < 1 from nlt_r (b := 1) (by omega) (by omega) hL1), if_pos (show nI L ≤ 3600 from le_r (b := 3600) (by omega) (by omega) hL2), w1, Option.bind_some]
    dsimp only
    rw [hs0, nI_add, a1, Option.bind_some, hs1, pk_sub (by omega), show sec' - sec = L - lN' by omega]
  rw [a2, Option.bind_some, hcls, Option.bind_some, if_pos rfl]
  exact ⟨_, _, _, _, _, rfl, s', n, m, k', a3⟩
/-- the next hour, in the row -/
theorem bg7 {u r : MV} {n m : Nat} (hn : n ≤ 12) (hm : m ≤ 10) (h7 : u.1 7 = nI n) (h8 : u.1 8 = nI m) (h : f_X7_begins u = some r) : r.1 0 = 0 ∧ r.1 1 = 0 ∧ r.1 2 = 0 ∧ r.1 5 = 0 ∧ r.1 6 = u.1 6 ∧ r.1 7 = nI n ∧ r.1 8 = nI m ∧ r.1 9 = 0 ∧ (∀ i : Nat, i < n → pL r.1 i = pL u.1 i ∧ pT r.1 i = pT u.1 i ∧ pK r.1 i = pK u.1 i ∧ pS r.1 i = 0 ∧ pB r.1 i = -1) ∧ ∀ i : Nat, i < m → pfL r.1 i = pfL u.1 i ∧ pfS r.1 i = 0 ∧ pfB r.1 i = -1 := by
  obtain ⟨s0, hs0⟩ : ∃ s0 : FF, s0 = upd (upd (upd (upd (upd u.1 0 0) 1 0) 2 0) 5 0) 9 0 := ⟨_, rfl⟩
  have zz : ∀ j : Nat, j ≠ 0 → j ≠ 1 → j ≠ 2 → j ≠ 5 → j ≠ 9 → s0 j = u.1 j := fun j q1 q2 q3 q4 q5 => by
    rw [hs0, pk_un q5, pk_un q4, pk_un q3, pk_un q2, pk_un q1]
  obtain ⟨s1, c1, c2, c3⟩ := bg38 (u := (s0, u.2)) (G := s0) hn ((zz 7 (by omega) (by omega) (by omega) (by omega) (by omega)).trans h7)
  have h8' : s1 8 = nI m := (c3 8 (fun a ha => ⟨by omega, by omega⟩)).trans ((zz 8 (by omega) (by omega) (by omega) (by omega) (by omega)).trans h8)
  obtain ⟨s2, d1, d2, d3⟩ := bg85 (u := (s1, u.2)) (G := s1) hm h8'
  have hr : r = (s2, u.2) := by
    unfold f_X7_begins at h
    rw [← hs0] at h
    have c1' : zloop (s_X7_begins_38 (s0, u.2.1, u.2.2.1, u.2.2.2.1, u.2.2.2.2.1, u.2.2.2.2.2.1, u.2.2.2.2.2.2.1, u.2.2.2.2.2.2.2.1, u.2.2.2.2.2.2.2.2.1, u.2.2.2.2.2.2.2.2.2.1, u.2.2.2.2.2.2.2.2.2.2)) 4096 (0, s0) = some (nI n, s1) := c1
    rw [c1', Option.bind_some] at h
    have d1' : zloop (s_X7_begins_85 (s1, u.2.1, u.2.2.1, u.2.2.2.1, u.2.2.2.2.1, u.2.2.2.2.2.1, u.2.2.2.2.2.2.1, u.2.2.2.2.2.2.2.1, u.2.2.2.2.2.2.2.2.1, u.2.2.2.2.2.2.2.2.2.1, u.2.2.2.2.2.2.2.2.2.2)) 4096 (0, s1) = some (nI m, s2) := d1
    have h' : (zloop (s_X7_begins_85 (s1, u.2.1, u.2.2.1, u.2.2.2.1, u.2.2.2.2.1, u.2.2.2.2.2.1, u.2.2.2.2.2.2.1, u.2.2.2.2.2.2.2.1, u.2.2.2.2.2.2.2.2.1, u.2.2.2.2.2.2.2.2.2.1, u.2.2.2.2.2.2.2.2.2.2)) 4096 (0, s1)).bind _ = some r := h
    rw [d1', Option.bind_some] at h'
    exact (Option.some.inj h').symm
  subst hr
  have ww : ∀ j : Nat, (∀ a : Nat, a < n → j ≠ 10 + 5 * a + 3 ∧ j ≠ 10 + 5 * a + 4) → (∀ a : Nat, a < m → j ≠ 70 + 3 * a + 1 ∧ j ≠ 70 + 3 * a + 2) → s2 j = s0 j := fun j q1 q2 => (d3 j q2).trans (c3 j q1)
  have w : ∀ j : Nat, j < 10 → s2 j = s0 j := fun j hj => ww j (fun a ha => ⟨by omega, by omega⟩) (fun a ha => ⟨by omega, by omega⟩)
  refine ⟨(w 0 (by omega)).trans (by rw [hs0, pk_un (by omega), pk_un (by omega), pk_un (by omega), pk_un (by omega), pk_us]), (w 1 (by omega)).trans (by rw [hs0, pk_un (by omega), pk_un (by omega), pk_un (by omega), pk_us]), (w 2 (by omega)).trans (by rw [hs0, pk_un (by omega), pk_un (by omega), pk_us]), (w 5 (by omega)).trans (by rw [hs0, pk_un (by omega), pk_us]), (w 6 (by omega)).trans (zz 6 (by omega) (by omega) (by omega) (by omega) (by omega)), (w 7 (by omega)).trans ((zz 7 (by omega) (by omega) (by omega) (by omega) (by omega)).trans h7), (w 8 (by omega)).trans ((zz 8 (by omega) (by omega) (by omega) (by omega) (by omega)).trans h8), (w 9 (by omega)).trans (by rw [hs0, pk_us]), fun i hi => ⟨?_, ?_, ?_, ?_, ?_⟩, fun i hi => ⟨?_, (d2 i hi).1, (d2 i hi).2⟩⟩
  · exact (ww _ (fun a ha => ⟨by omega, by omega⟩) (fun a ha => ⟨by omega, by omega⟩)).trans (zz _ (by omega) (by omega) (by omega) (by omega) (by omega))
  · exact (ww _ (fun a ha => ⟨by omega, by omega⟩) (fun a ha => ⟨by omega, by omega⟩)).trans (zz _ (by omega) (by omega) (by omega) (by omega) (by omega))
  · exact (ww _ (fun a ha => ⟨by omega, by omega⟩) (fun a ha => ⟨by omega, by omega⟩)).trans (zz _ (by omega) (by omega) (by omega) (by omega) (by omega))
  · exact (d3 _ (fun a ha => ⟨by omega, by omega⟩)).trans (c2 i hi).1
  · exact (d3 _ (fun a ha => ⟨by omega, by omega⟩)).trans (c2 i hi).2
  · exact (ww _ (fun a ha => ⟨by omega, by omega⟩) (fun a ha => ⟨by omega, by omega⟩)).trans (zz _ (by omega) (by omega) (by omega) (by omega) (by omega))
/-- the law's arrays begin anew -/
def aE (e : FF) (j : Nat) : Int32 := if j % 5 = 3 then 0 else if j % 5 = 4 then -1 else e j
def aF (f : FF) (j : Nat) : Int32 := if j % 3 = 1 then 0 else if j % 3 = 2 then -1 else f j
theorem K726 {G0 G1 G2 G3 e f : FF} {v : CV} : ∃ e' f' : FF, zloop (s_L_acts_726 G0 G1 G2 G3 v 1) 4096 (0, e, f) = some (nI 30, e', f') ∧ (∀ j : Nat, j < 30 → e' j = aE e j) ∧ ∀ j : Nat, j < 15 → f' j = aF f j := by
  obtain ⟨r, h1, e', f', rfl, h2, h3⟩ := zl1 (f := s_L_acts_726 G0 G1 G2 G3 v 1)
    (fun k x => ∃ (a : Nat) (e1 f1 : FF), k = 30 - a ∧ a ≤ 30 ∧ x = (nI a, e1, f1) ∧ (∀ j : Nat, e1 j = if j < a then aE e j else e j) ∧ ∀ j : Nat, f1 j = if 2 * j < a then aF f j else f j)
    (fun r => ∃ e' f' : FF, r = (nI 30, e', f') ∧ (∀ j : Nat, j < 30 → e' j = aE e j) ∧ ∀ j : Nat, j < 15 → f' j = aF f j)
    (by
      rintro k x ⟨a, e1, f1, rfl, ha, rfl, hE, hF⟩
      by_cases hl : 30 ≤ a
      · obtain rfl : a = 30 := by omega
        refine Or.inl ⟨(nI 30, e1, f1), ?_, e1, f1, rfl, fun j hj => by rw [hE, if_pos hj], fun j hj => by rw [hF, if_pos (by omega)]⟩
        unfold s_L_acts_726
        dsimp only
        rw [if_pos (by decide)]
      · have m5 : nI a - nI a / 5 * 5 = nI (a % 5) := rmd (by omega) 5 (by omega) (by omega)
        have d2 : nI a / 2 = nI (a / 2) := pk_div (d := 2) (by omega) (by omega) (by omega)
        have m3 : nI (a / 2) - nI (a / 2) / 3 * 3 = nI (a / 2 % 3) := rmd (by omega) 3 (by omega) (by omega)
        have q53 : (nI (a % 5) = 3) = (a % 5 = 3) := propext (by show nI (a % 5) = nI 3 ↔ _; rw [nI_eq (by omega) (by omega)])
        have q54 : (nI (a % 5) = 4) = (a % 5 = 4) := propext (by show nI (a % 5) = nI 4 ↔ _; rw [nI_eq (by omega) (by omega)])
        have q31 : (nI (a / 2 % 3) = 1) = (a / 2 % 3 = 1) := propext (by show nI (a / 2 % 3) = nI 1 ↔ _; rw [nI_eq (by omega) (by omega)])
        have q32 : (nI (a / 2 % 3) = 2) = (a / 2 % 3 = 2) := propext (by show nI (a / 2 % 3) = nI 2 ↔ _; rw [nI_eq (by omega) (by omega)])
        have x1 : (if a % 5 = 3 then some 0 else if a % 5 = 4 then some (-1) else some (e1 a) : Option Int32) = some (aE e a) := by
          have : e1 a = e a := by rw [hE, if_neg (by omega)]
          unfold aE
          rw [this]
          split
          · rfl
          · split <;> rfl
        have x2 : (if a / 2 % 3 = 1 then some 0 else if a / 2 % 3 = 2 then some (-1) else some (f1 (a / 2)) : Option Int32) = some (aF f (a / 2)) := by
          have hf1 : f1 (a / 2) = if 2 * (a / 2) < a then aF f (a / 2) else f (a / 2) := hF _
          unfold aF at hf1 ⊢
          by_cases w1 : a / 2 % 3 = 1
          · rw [if_pos w1, if_pos w1]
          · rw [if_neg w1, if_neg w1] at *
            by_cases w2 : a / 2 % 3 = 2
            · rw [if_pos w2, if_pos w2]
            · rw [if_neg w2, if_neg w2] at *
              rw [hf1]
              split <;> rfl
        refine Or.inr ⟨30 - (a + 1), (nI (a + 1), upd e1 a (aE e a), upd f1 (a / 2) (aF f (a / 2))), ?_, by omega, a + 1, _, _, rfl, by omega, rfl, fun j => ?_, fun j => ?_⟩
        · unfold s_L_acts_726
          dsimp only
          rw [if_neg (show ¬ (30 : Int32) ≤ nI a from fun z => hl ((nI_leI (a := 30) (by omega) (by omega)).mp z)), if_neg (by decide), d2, m5, m3, nI_1]
          have hz1 : zin (nI a) 30 = true := zin_n (by omega) (by omega)
          have hz2 : zin (nI (a / 2)) 15 = true := zin_n (by omega) (by omega)
          have hc1 : (nI a).toNatClampNeg = a := cl_n (by omega)
          have hc2 : (nI (a / 2)).toNatClampNeg = a / 2 := cl_n (by omega)
          simp only [hz1, hz2, hc1, hc2, if_true, q53, q54, q31, q32]
          rw [x1, Option.bind_some, x2, Option.bind_some]
        · by_cases hj : j = a
          · subst hj; rw [pk_us, if_pos (by omega)]
          · rw [pk_un hj, hE]
            by_cases hja : j < a
            · rw [if_pos hja, if_pos (by omega)]
            · rw [if_neg hja, if_neg (by omega)]
        · by_cases hj : j = a / 2
          · subst hj; rw [pk_us, if_pos (by omega)]
          · rw [pk_un hj, hF]
            by_cases hja : 2 * j < a
            · rw [if_pos hja, if_pos (by omega)]
            · rw [if_neg hja, if_neg (by omega)])
    4096 30 (nI 0, e, f) (by omega) ⟨0, e, f, rfl, by omega, rfl, fun j => by rw [if_neg (by omega)], fun j => by rw [if_neg (by omega)]⟩
  exact ⟨e', f', h1, h2, h3⟩
theorem K709 {v : CV} {g e f l : FF} {V : Nat} {u2 : Int32} (hJ : JJ v g e f l) (p0 : Int32) : AK (k_L_acts_709 g e f l v u2 (nI V) p0) := by
  obtain ⟨s, n, m, k, hJ⟩ := hJ
  obtain ⟨h0, hl, hin, hS, hR, hEN, hOV, hBG⟩ := hJ
  have hA := hR.2
  obtain ⟨⟨r1, r2, r3, g0, g1, g2, g3, g6, g7, g8, s7, s8, s9, hE, hF, hN⟩, -⟩ := hR
  unfold k_L_acts_709
  rcases ov2 h0 hin with ⟨o1, o2, o3⟩ | ⟨o1, o2, o3⟩
  · -- the hour isn't over
    have hg : ¬ g 3 = 1 := by rw [g3]; exact o3
    have hloop : zloop (s_L_acts_726 g e f l v 0) 4096 (0, e, f) = some (0, e, f) := zl_r (by
      unfold s_L_acts_726
      dsimp only
      rw [if_neg (by decide), if_pos rfl]) 4095
    have hf : fa_L_agains v = some (-2000003, v) := by
      unfold fa_L_agains f_X6_again
      rw [if_pos o1]
      rfl
    rw [if_neg hg, Option.bind_some, hloop, Option.bind_some, if_pos rfl, Option.bind_some, if_pos rfl, Option.bind_some, if_pos rfl, Option.bind_some, if_pos rfl, Option.bind_some, hf, Option.bind_some, if_pos rfl, if_pos rfl, Int32.add_zero]
    have gg : ∀ j : Nat, upd (upd (upd (upd (upd g 2 (g 2)) 3 0) 6 (g 6)) 7 (g 7)) 8 (g 8) j = g j := fun j => by
      by_cases j8 : j = 8
      · rw [j8, pk_us]
      by_cases j7 : j = 7
      · rw [j7, pk_un (by omega), pk_us]
      by_cases j6 : j = 6
      · rw [j6, pk_un (by omega), pk_un (by omega), pk_us]
      by_cases j3 : j = 3
      · rw [j3, pk_un (by omega), pk_un (by omega), pk_un (by omega), pk_us]
        exact (g3.trans o2).symm
      by_cases j2 : j = 2
      · rw [j2, pk_un (by omega), pk_un (by omega), pk_un (by omega), pk_un (by omega), pk_us]
      rw [pk_un j8, pk_un j7, pk_un j6, pk_un j3, pk_un j2]
    refine ⟨_, _, _, _, _, rfl, s, n, m, k, h0, hl, hin, hS, ⟨⟨r1, r2, r3, (gg 0).trans g0, (gg 1).trans g1, (gg 2).trans g2, (gg 3).trans g3, (gg 6).trans g6, (gg 7).trans g7, (gg 8).trans g8, s7, s8, s9, hE, hF, hN⟩, AIR_cg hA (gg 4) (gg 5) rfl rfl rfl rfl⟩, hEN, hOV, hBG⟩
  · -- it is over
    have hg : g 3 = 1 := g3.trans o3
    obtain ⟨e', f', q1, q2, q3⟩ := K726 (G0 := g) (G1 := e) (G2 := f) (G3 := l) (e := e) (f := f) (v := v)
    obtain ⟨q', c', w1, w2⟩ := sv8 hS
    obtain ⟨h', s', k1, k2, k3, -, k5⟩ := bgn2 (u := (s, u20)) h0 hin
    obtain ⟨b0, b1, b2, b5, b6, b7, b8, b9, bE, bF⟩ := bg7 (u := (s, u20)) (by omega) (by omega) s7 s8 k2
    have b0' : s' 0 = 0 := b0
    have b6' : s' 6 = s 6 := b6
    have b7' : s' 7 = nI n := b7
    have b8' : s' 8 = nI m := b8
    have bE' : ∀ i : Nat, i < n → pL s' i = pL s i ∧ pT s' i = pT s i ∧ pK s' i = pK s i ∧ pS s' i = 0 ∧ pB s' i = -1 := bE
    have bF' : ∀ i : Nat, i < m → pfL s' i = pfL s i ∧ pfS s' i = 0 ∧ pfB s' i = -1 := bF
    have hsx : s' 6 + 1 = g 7 + 1 := by rw [b6', g7]
    obtain ⟨n1, m1, kk, y1, y2, y3⟩ := k5 (s' 6 + 1)
    have zj : ∀ j : Nat, j ≠ 6 → upd s' 6 (s' 6 + 1) j = s' j := fun j hj => pk_un hj
    obtain rfl : n = n1 := by
      have z1 := y1.1.2.2.1
      have z2 := y1.1.1
      rw [zj 7 (by omega), b7', nI_eq (by omega) (by omega)] at z1
      exact z1
    obtain rfl : m = m1 := by
      have z1 := y1.2.1.2.2.1
      have z2 := y1.2.1.1
      rw [zj 8 (by omega), b8', nI_eq (by omega) (by omega)] at z1
      exact z1
    obtain rfl : kk = 0 := by
      have z1 := y2.2.2.1
      have z2 := y2.1
      rw [zj 9 (by omega)] at z1
      have b9' : s' 9 = nI 0 := b9
      rw [b9', nI_eq (by omega) (by omega)] at z1
      exact z1.symm
    have hf : fa_L_agains v = some (s' 6 + 1, ((h'.1, h'.2.1, h'.2.2.1, h'.2.2.2.1, h'.2.2.2.2.1, h'.2.2.2.2.2.1, h'.2.2.2.2.2.2.1, s' 6 + 1, h'.2.2.2.2.2.2.2.2), v.2.1, q', c', v.2.2.2.2)) := by
      unfold fa_L_agains f_X6_again
      rw [if_neg o1, w1, Option.bind_some]
      dsimp only
      rw [k1, Option.bind_some, k3]
      rfl
    have hg4 : g 4 = 0 ∧ g 5 = 0 := by
      have hs2 := hOV o3
      rcases hA with ⟨-, q⟩ | ⟨q, -⟩ | ⟨q, -⟩ | ⟨q, -⟩
      · exact q
      · rw [hs2] at q; exact absurd q (by decide)
      · rw [hs2] at q; exact absurd q (by decide)
      · rw [hs2] at q; exact absurd q (by decide)
    rw [if_pos hg, Option.bind_some, q1, Option.bind_some, if_neg (by decide), Option.bind_some, if_neg (by decide), Option.bind_some, if_neg (by decide), Option.bind_some, if_neg (by decide), Option.bind_some, hf, Option.bind_some, if_neg (by decide), if_pos hsx]
    have gj : ∀ j : Nat, j ≠ 2 → j ≠ 3 → j ≠ 6 → j ≠ 7 → j ≠ 8 → upd (upd (upd (upd (upd g 2 0) 3 0) 6 0) 7 (g 7 + 1)) 8 0 j = g j := fun j j2 j3 j6 j7 j8 => by rw [pk_un j8, pk_un j7, pk_un j6, pk_un j3, pk_un j2]
    have e2 : upd (upd (upd (upd (upd g 2 0) 3 0) 6 0) 7 (g 7 + 1)) 8 0 2 = 0 := by rw [pk_un (by omega), pk_un (by omega), pk_un (by omega), pk_un (by omega), pk_us]
    have e3 : upd (upd (upd (upd (upd g 2 0) 3 0) 6 0) 7 (g 7 + 1)) 8 0 3 = 0 := by rw [pk_un (by omega), pk_un (by omega), pk_un (by omega), pk_us]
    have e6 : upd (upd (upd (upd (upd g 2 0) 3 0) 6 0) 7 (g 7 + 1)) 8 0 6 = 0 := by rw [pk_un (by omega), pk_un (by omega), pk_us]
    have e7 : upd (upd (upd (upd (upd g 2 0) 3 0) 6 0) 7 (g 7 + 1)) 8 0 7 = g 7 + 1 := by rw [pk_un (by omega), pk_us]
    have x0 : upd s' 6 (s' 6 + 1) 0 = 0 := (zj 0 (by omega)).trans b0'
    have x1 : upd s' 6 (s' 6 + 1) 1 = 0 := (zj 1 (by omega)).trans b1
    have x2 : upd s' 6 (s' 6 + 1) 2 = 0 := (zj 2 (by omega)).trans b2
    have x5 : upd s' 6 (s' 6 + 1) 5 = 0 := (zj 5 (by omega)).trans b5
    refine ⟨_, _, _, _, _, rfl, upd s' 6 (s' 6 + 1), n, m, 0, y1, y2, y3, w2, ⟨⟨r1, r2, by omega, (gj 0 (by omega) (by omega) (by omega) (by omega) (by omega)).trans g0, (gj 1 (by omega) (by omega) (by omega) (by omega) (by omega)).trans g1, e2.trans x0.symm, e3.trans x1.symm, e6.trans x5.symm, e7.trans (by rw [pk_us, hsx]), pk_us, (zj 7 (by omega)).trans b7', (zj 8 (by omega)).trans b8', (zj 9 (by omega)).trans b9, ?_, ?_, fun i w hi => absurd hi (Nat.not_lt_zero _)⟩, Or.inl ⟨x2, (gj 4 (by omega) (by omega) (by omega) (by omega) (by omega)).trans hg4.1, (gj 5 (by omega) (by omega) (by omega) (by omega) (by omega)).trans hg4.2⟩⟩, EN_n (by rw [x2]; decide), fun _ => x2, fun a ha => Or.inl ((zj _ (by omega)).trans (bE' a ha).2.2.2.2)⟩
    · intro i w hi hw
      obtain ⟨z1, z2, z3, z4, z5⟩ := bE' i hi
      show e' (5 * i + w) = upd s' 6 (s' 6 + 1) (10 + 5 * i + w)
      rw [zj _ (by omega), q2 _ (by omega)]
      unfold aE
      rcases (by omega : w = 0 ∨ w = 1 ∨ w = 2 ∨ w = 3 ∨ w = 4) with rfl | rfl | rfl | rfl | rfl
      · rw [if_neg (by omega), if_neg (by omega)]; exact (EL0 hE hi).trans z1.symm
      · rw [if_neg (by omega), if_neg (by omega)]; exact (EL1 hE hi).trans z2.symm
      · rw [if_neg (by omega), if_neg (by omega)]; exact (EL2 hE hi).trans z3.symm
      · rw [if_pos (by omega)]; exact z4.symm
      · rw [if_neg (by omega), if_pos (by omega)]; exact z5.symm
    · intro i w hi hw
      obtain ⟨z1, z2, z3⟩ := bF' i hi
      show f' (3 * i + w) = upd s' 6 (s' 6 + 1) (70 + 3 * i + w)
      rw [zj _ (by omega), q3 _ (by omega)]
      unfold aF
      rcases (by omega : w = 0 ∨ w = 1 ∨ w = 2) with rfl | rfl | rfl
      · rw [if_neg (by omega), if_neg (by omega)]; exact (FL0 hF hi).trans z1.symm
      · rw [if_pos (by omega)]; exact z2.symm
      · rw [if_neg (by omega), if_pos (by omega)]; exact z3.symm
theorem low_c {x : Int32} {M : Nat} (h0 : 1 ≤ M) (hM : M ≤ 10000000) : ∃ V : Nat, V < M ∧ f_L_low x (nI M) = some (nI V) := by
  obtain ⟨j, hj, hx⟩ := pk_andE x (m := 2147483647) 31 (by decide)
  refine ⟨j % M, Nat.mod_lt _ h0, ?_⟩
  have hMn : ¬ nI M = 0 := (show ¬ nI M = nI 0 from by rw [nI_eq (by omega) (by omega)]; omega)
  unfold f_L_low
  rw [if_neg hMn, hx, rmd hj M h0 (by omega)]
theorem A_acts {v : CV} {g e f l : FF} (hJ : JJ v g e f l) (z : Int32) : AK (f_L_acts g e f l v z) := by
  have hJ' := hJ
  obtain ⟨s, n, m, k, hJ⟩ := hJ
  have hR := hJ.2.2.2.2.1
  have g0 : g 0 = nI n := hR.1.2.2.2.1
  have hn6 := hR.1.1
  obtain ⟨V, hV, hlow⟩ := low_c (x := z >>> (5 &&& 31)) (M := 10000000) (by omega) (Nat.le_refl _)
  have hlow' : f_L_low (z >>> (5 &&& 31)) 10000000 = some (nI V) := hlow
  obtain ⟨w, -, hw⟩ := low_c (x := z) (M := 18) (by omega) (by omega)
  have hw' : f_L_low z 18 = some (nI w) := hw
  have hg0 : (g 0 = 0) = (n = 0) := by
    rw [g0]
    apply propext
    show nI n = nI 0 ↔ _
    rw [nI_eq (by omega) (by omega)]
  obtain ⟨u2, hu2, hu⟩ : ∃ u2 : Int32, (if (g 0) = 0 then some 0 else if (g 0) = 0 then none else (some (nI V - nI V / (g 0) * (g 0))) : Option Int32) = some u2 ∧ UE g u2 := by
    by_cases hn0 : n = 0
    · have hgz : g 0 = 0 := by rw [hg0]; exact hn0
      refine ⟨0, by rw [if_pos hgz], fun n' h6 hn' => ⟨fun _ => rfl, fun q => ?_⟩⟩
      rw [g0, nI_eq (by omega) (by omega)] at hn'
      omega
    · have hgz : ¬ g 0 = 0 := by rw [hg0]; exact hn0
      refine ⟨nI (V % n), by rw [if_neg hgz, if_neg hgz, g0, rmd (by omega) n (by omega) (by omega)], fun n' h6 hn' => ?_⟩
      rw [g0, nI_eq (by omega) (by omega)] at hn'
      subst hn'
      exact ⟨fun q => absurd q hn0, fun _ => ⟨V % n, Nat.mod_lt _ (by omega), rfl⟩⟩
  unfold f_L_acts
  rw [hlow', Option.bind_some, hu2, Option.bind_some, hw', Option.bind_some]
  split
  · exact K92 hJ' hV u2 z
  split
  · exact K92 hJ' hV u2 z
  split
  · exact K92 hJ' hV u2 z
  split
  · exact K288 hJ' hV u2 z
  split
  · exact K288 hJ' hV u2 z
  split
  · exact K403 hJ' hV hu z
  split
  · exact K403 hJ' hV hu z
  split
  · exact K625 hJ' hu z
  split
  · exact K709 hJ' z
  split
  · exact K913 hJ' z
  · exact K980 hJ' hV z
