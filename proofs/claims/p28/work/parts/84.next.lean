/-! The law's next is the row's. -/
/-- what the law does with a gap -/
def LG (g e f l : FF) (t w : Int32) : Option (FF × FF × FF × FF) :=
  if w ≤ 0 then
    if t ≤ (g 2) then some ((upd g 3 1), e, f, l)
    else (f_L_notes (upd (upd g 4 40) 5 (t - (g 2))) l 2 (-1)).bind (fun u28 => some (u28.1, e, f, u28.2))
  else
    (zloop (s_L_next_248 g e f l w) 10000 0).bind (fun u30 =>
      if zin ((3 * u30) + 1) 15 = true then
      if zin ((3 * u30) + 2) 15 = true then
      if zin (3 * u30) 15 = true then
      (f_L_notes (upd (upd g 4 (21 + u30)) 5 ((upd (upd f (((3 * u30) + 1).toNatClampNeg) 1) (((3 * u30) + 2).toNatClampNeg) (g 2)) (3 * u30).toNatClampNeg)) l 1 u30).bind (fun u34 =>
      some (u34.1, e, (upd (upd f (((3 * u30) + 1).toNatClampNeg) 1) (((3 * u30) + 2).toNatClampNeg) (g 2)), u34.2))
      else none
      else none
      else none)
def LB1 (g e f l : FF) (a : Int32) : Option (FF × FF × FF × FF) := (f_L_begins g e l a).bind (fun u36 => some (u36.1, u36.2.1, f, u36.2.2))
def LN (g e f l : FF) (j t a w : Int32) : Option (FF × FF × FF × FF) :=
  if (g 0) ≤ a then LG g e f l t w
  else if a < j then LB1 g e f l a
  else if (g 2) < t then LG g e f l t w
  else LB1 g e f l a
def LW (g f : FF) (j t a : Int32) : Option Int32 :=
  if a < j then some 0
  else if (g 2) < t then (f_L_choice g f (t - (g 2))).bind (fun u49 => some u49)
  else some 0
theorem LNe (G0 G1 G2 G3 : FF) : f_L_next G0 G1 G2 G3 = (f_L_fixed G0 G1 0).bind (fun u1 => (f_L_timeAt G0 G1 u1).bind (fun u2 => (zloop (s_L_next_20 G0 G1 G2 G3 u1 u2) 10000 (1, G0, G1, G3)).bind (fun u18 => (zloop (s_L_next_150 u18.2.1 u18.2.2.1 G2 u18.2.2.2 u1 u2) 10000 0).bind (fun u22 => (LW u18.2.1 G2 u1 u2 u22).bind (fun u23 => LN u18.2.1 u18.2.2.1 G2 u18.2.2.2 u1 u2 u22 u23))))) := rfl
theorem Lfw {g e f l s : FF} {n j : Nat} {t : Int32} (hn : n ≤ 6) (he : EL e s n) (hj : j ≤ n) : ∃ a : Nat, a ≤ j ∧ zloop (s_L_next_150 g e f l (nI j) t) 10000 0 = some (nI a) ∧ (a < j → pS s a = 0) ∧ ∀ k : Nat, k < a → pS s k ≠ 0 := by
  obtain ⟨r, h1, a, h2, rfl, h3, h4⟩ := zl1 (f := s_L_next_150 g e f l (nI j) t)
    (fun k x => ∃ a : Nat, k = j - a ∧ x = nI a ∧ a ≤ j ∧ ∀ k : Nat, k < a → pS s k ≠ 0)
    (fun r => ∃ a : Nat, a ≤ j ∧ r = nI a ∧ (a < j → pS s a = 0) ∧ ∀ k : Nat, k < a → pS s k ≠ 0)
    (by
      rintro k x ⟨a, rfl, rfl, hb, hc⟩
      by_cases hl : j ≤ a
      · obtain rfl : a = j := by omega
        refine Or.inl ⟨nI a, ?_, a, Nat.le_refl _, rfl, fun q => by omega, hc⟩
        unfold s_L_next_150
        rw [if_pos (Int32.le_refl _)]
      · have hst : s_L_next_150 g e f l (nI j) t (nI a) = if pS s a = 0 then some (.inr (nI a)) else some (.inl (nI (a + 1))) := by
          unfold s_L_next_150
          rw [if_neg (by rw [nI_leI (by omega) (by omega)]; exact hl), l53, if_pos (zin_n (by omega) (by omega)), cl_n (by omega), EL3 he (by omega), nI_1]
        by_cases hs : pS s a = 0
        · exact Or.inl ⟨nI a, by rw [hst, if_pos hs], a, hb, rfl, fun _ => hs, hc⟩
        · refine Or.inr ⟨j - (a + 1), nI (a + 1), by rw [hst, if_neg hs], by omega, a + 1, rfl, rfl, by omega, fun k h2 => ?_⟩
          by_cases hk : k = a
          · subst hk; exact hs
          · exact hc k (by omega))
    10000 j (nI 0) (by omega) ⟨0, rfl, rfl, Nat.zero_le _, fun k h2 => by omega⟩
  exact ⟨a, h2, h1, h3, h4⟩
/-- a gap -/
theorem Lga {g e f l : FF} {w r : MV} {n m k tt sec B : Nat} (hR : RW g e f l w.1 n m k) (hB : B < 1024) (hs : pSub B (pWm w.1 m)) (hsec : w.1 0 = nI sec) (hlt : sec < tt) (htt : tt ≤ 3600)
    (hx : (if nI B = 0 then (f_X7_goesOnAir w 3 (-1) (nI tt - (w.1 0))).bind (fun u19 => some u19) else (f_X7_lowestOf (nI B)).bind (fun u17 => (f_X7_beginsFiller w u17).bind (fun u18 => some u18))) = some r) :
    ∃ g' e' f' l' : FF, LG g e f l (nI tt) (nI B) = some (g', e', f', l') ∧ RW g' e' f' l' r.1 n m (k + 1) ∧ r.1 2 ≠ 1 ∧ ∀ a : Nat, a < n → pB r.1 a = pB w.1 a := by
  have hg2 : g 2 = nI sec := hR.1.2.2.2.2.2.1.trans hsec
  by_cases hB0 : B = 0
  · subst hB0
    rw [if_pos (show nI 0 = 0 from rfl)] at hx
    obtain ⟨y, hy, hx⟩ := ob hx
    obtain rfl : y = r := Option.some.inj hx
    obtain ⟨l', q1, -, q3, v2, -, -, vj⟩ := Lgo (A := 40) hR.1 hy (Or.inr (Or.inr ⟨rfl, rfl⟩))
    refine ⟨_, _, _, _, ?_, q3, by rw [v2]; decide, fun a ha => vj _ (by omega) (by have := hR.1.1; omega)⟩
    unfold LG
    have q1' : f_L_notes (upd (upd g 4 40) 5 (nI tt - (w.1 0))) l 2 (-1) = _ := q1
    rw [if_pos (show nI 0 ≤ 0 from Int32.le_refl _), if_neg (by rw [hg2, nI_leI (by omega) (by omega)]; omega), hR.1.2.2.2.2.2.1, q1', Option.bind_some]
  · have hne : ¬ nI B = 0 := (show ¬ nI B = nI 0 from by rw [nI_eq (by omega) (by omega)]; exact hB0)
    have hnl : ¬ nI B ≤ 0 := (show ¬ nI B ≤ nI 0 from by rw [nI_leI (by omega) (by omega)]; omega)
    obtain ⟨q1, q2⟩ := low_b B hB hB0
    have q4 := low7 B hB hB0
    generalize tz 10 B = i at *
    obtain ⟨hi, -⟩ := pWm_b w.1 m i (hs i q1)
    rw [if_neg hne, q4, Option.bind_some] at hx
    obtain ⟨y, hy, hx⟩ := ob hx
    obtain rfl : y = r := Option.some.inj hx
    have q5 : zloop (s_L_next_248 g e f l (nI B)) 10000 0 = some (nI i) := by
      unfold f_X7_lowestOf at q4
      obtain ⟨z, hz, q4⟩ := ob q4
      obtain rfl : z = nI i := Option.some.inj q4
      exact zl_mono 4096 10000 _ _ hz (by omega)
    obtain ⟨g', l', p1, p2, p3, p4⟩ := Lfi hR.1 hi hy
    have hm := hR.1.2.1
    refine ⟨g', e, _, l', ?_, p2, by rw [p3]; decide, p4⟩
    unfold LG
    rw [if_neg hnl, q5, Option.bind_some, l31, l32, l30, if_pos (zin_n (by omega) (by omega)), if_pos (zin_n (by omega) (by omega)), if_pos (zin_n (by omega) (by omega)), cl_n (by omega), cl_n (by omega), cl_n (by omega), p1, Option.bind_some]
theorem Lnx {E : Prop} {h : HV} {u r : MV} {n m k : Nat} (h0 : HR0 h u.1 n m) (hl : LB E h.2.2.1 u.1 k) (hin : pIn u.1 n m k) {g e f l : FF} (hR : RW g e f l u.1 n m k) (hair : u.1 2 = 0) (hx : f_X7_finds u = some r) : ∃ (g' e' f' l' : FF) (k' : Nat), f_L_next g e f l = some (g', e', f', l') ∧ RW g' e' f' l' r.1 n m k' ∧ EN r.1 n ∧ ∀ a : Nat, a < n → pB r.1 a = pB u.1 a ∨ pB r.1 a = u.1 0 := by
  have hn := h0.1.1
  have hm := h0.2.1.1
  have hn6 := hR.1.1
  have hm5 := hR.1.2.1
  have hE0 : EL e u.1 n := hR.1.2.2.2.2.2.2.2.2.2.2.2.2.2.1
  have g0 : g 0 = nI n := hR.1.2.2.2.1
  have hTM : TM u.1 n := fun i hi => (hin.1 i hi).2.1
  obtain ⟨j, t, e1, e2, e3, e4, e5, e6, e7, e8, e9, e10⟩ := goal2 h0.1
  obtain ⟨b, f1, f2, -⟩ := le2 h0.1 e1 e2
  obtain ⟨h1, s1, b1, k1, d1, d2, d3, d4, d5, d6, d7, d8, d9⟩ := dft2 h0 hl hin e1 e8 e9 e10 f2
  obtain ⟨j', -, i1, i2, i3, i4⟩ := Lfx hn6 g0 hE0 hTM (Nat.zero_le n)
  obtain rfl : j' = j := nf_u e1 i1 (fun q => (e8 q).2) e10 i3 (fun k hk => i4 k (Nat.zero_le _) hk)
  have i2' : f_L_fixed g e 0 = some (nI j') := i2
  obtain ⟨t', t1, t2, t3⟩ := Ltm hn6 g0 hE0 i1
  obtain rfl : t' = t := by
    by_cases hjn : j' < n
    · rw [t2 hjn, (e8 hjn).1]
    · rw [t3 (by omega), e9 (by omega)]
  obtain ⟨x, g1, ee, ll, k2, w1, w2⟩ := Ldr (G0 := g) (G1 := e) (G3 := l) e1 4096 b u b1 (s1, u.2) d2 g e l k hR (lowX (by omega) f2)
  have w1' := zl_mono 4097 10000 _ _ w1 (by omega)
  have w2b : RW g1 ee f ll s1 n m k2 := w2
  have hE1 : EL ee s1 n := w2b.1.2.2.2.2.2.2.2.2.2.2.2.2.2.1
  have hF1 : FL f s1 m := w2b.1.2.2.2.2.2.2.2.2.2.2.2.2.2.2.1
  have g10 : g1 0 = nI n := w2b.1.2.2.2.1
  have g11 : g1 1 = nI m := w2b.1.2.2.2.2.1
  have g12 : g1 2 = s1 0 := w2b.1.2.2.2.2.2.1
  have hT : ∀ a : Nat, a < n → pT s1 a = pT u.1 a := fun a ha => d6 _ (by omega) (by omega) (fun q hq => by omega)
  have hB1 : ∀ a : Nat, a < n → pB s1 a = pB u.1 a := fun a ha => d6 _ (by omega) (by omega) (fun q hq => by omega)
  have z0 : s1 0 = u.1 0 := d6 0 (by omega) (by omega) (fun q hq => by omega)
  have z2 : s1 2 = 0 := (d6 2 (by omega) (by omega) (fun q hq => by omega)).trans hair
  obtain ⟨sec, hs0, hs31⟩ : ∃ sec : Nat, s1 0 = nI sec ∧ sec < 100000 := by
    obtain ⟨-, -, -, sec, q1, q2, -⟩ := d5
    have aE : pCE s1 n ≤ n := pC_le _ n
    have aF : pCF s1 m ≤ m := pC_le _ m
    exact ⟨sec, q1, by omega⟩
  have q1 : j' < n → pS s1 j' = 0 ∧ pT s1 j' ≠ -1 := fun hjn => by
    rw [hT j' hjn]
    refine ⟨?_, (e8 hjn).2.2⟩
    have : pS s1 j' = pS u.1 j' := d6 _ (by omega) (by omega) (fun q hq => by omega)
    rw [this]
    exact (e8 hjn).2.1
  obtain ⟨tt, ht1, ht2⟩ : ∃ tt : Nat, t' = nI tt ∧ tt ≤ 3600 := by
    by_cases hjn : j' < n
    · obtain ⟨-, w2, -⟩ := d5.1 j' hjn
      rcases w2 with w2 | ⟨tt, w2, w3⟩
      · exact absurd w2 (q1 hjn).2
      · exact ⟨tt, ((e8 hjn).1).trans ((hT j' hjn).symm.trans w3), by omega⟩
    · exact ⟨3600, e9 (by omega), by omega⟩
  obtain ⟨a, v1, v2, v3, v4⟩ := fw7 (u := (s1, u.2)) (j := j') (by omega)
  obtain ⟨c, c1, c2, c3, c4⟩ := Lfw (g := g1) (f := f) (l := ll) (t := t') hn6 hE1 e1
  obtain rfl : c = a := by
    rcases Nat.lt_trichotomy c a with q | q | q
    · exact absurd (c3 (by omega)) (v4 c q)
    · exact q
    · exact absurd (v3 (by omega)) (c4 a q)
  have hle : (t' ≤ s1 0) = (tt ≤ sec) := by rw [ht1, hs0]; exact le_n (by omega) (by omega)
  have hlt : (s1 0 < t') = (sec < tt) := by rw [ht1, hs0]; exact lt_n (by omega) (by omega)
  have hN7 : s1 7 = nI n := d3.1.2.2.1
  have hn7 : (nI n ≤ nI j') = (n ≤ j') := le_n (by omega) (by omega)
  have hnc : (nI n ≤ nI c) = (n ≤ c) := le_n (by omega) (by omega)
  have hcj : (nI c < nI j') = (c < j') := lt_n (by omega) (by omega)
  unfold f_X7_finds at hx
  rw [e3, Option.bind_some, e5, Option.bind_some, f2, Option.bind_some, d2, Option.bind_some] at hx
  dsimp only at hx
  rw [v2, Option.bind_some] at hx
  have hnext : ∀ w R, LW g1 f (nI j') t' (nI c) = some w → LN g1 ee f ll (nI j') t' (nI c) w = some R → f_L_next g e f l = some R := fun w R y1 y2 => by
    rw [LNe, i2', Option.bind_some, t1, Option.bind_some, w1', Option.bind_some]
    dsimp only
    rw [c2, Option.bind_some, y1, Option.bind_some, y2]
  by_cases haj : c < j'
  · have hne : ¬ nI c = -1 := of_eq_false (ne1_n (by omega))
    rw [if_neg (show ¬ c = j' by omega), if_neg hne] at hx
    obtain ⟨y, hy, hx⟩ := ob hx
    obtain rfl : y = r := Option.some.inj hx
    obtain ⟨g', e', l', p1, p2, p3, p4⟩ := Lbe (u := (s1, u.2)) w2b.1 (show c < n by omega) hy
    refine ⟨g', e', f, l', k2 + 1, hnext 0 _ ?_ ?_, p2, p3, fun a ha => (p4 a ha).imp (fun q => q.trans (hB1 a ha)) (fun q => q.trans z0)⟩
    · unfold LW
      rw [if_pos (by rw [hcj]; exact haj)]
    · unfold LN LB1
      rw [g10, if_neg (by rw [hnc]; omega), if_pos (by rw [hcj]; exact haj), p1, Option.bind_some]
  · obtain rfl : c = j' := by omega
    rw [if_pos rfl, if_pos rfl] at hx
    by_cases hgo : tt ≤ sec
    · rw [if_pos (by rw [hle]; exact hgo)] at hx
      have hW : LW g1 f (nI c) t' (nI c) = some 0 := by
        unfold LW
        rw [if_neg (by rw [hcj]; omega), g12, if_neg (by rw [hlt]; omega)]
      by_cases hcn : c < n
      · rw [if_neg (show ¬ s1 7 ≤ nI c from by rw [hN7, hn7]; omega)] at hx
        obtain ⟨y, hy, hx⟩ := ob hx
        obtain rfl : y = r := Option.some.inj hx
        obtain ⟨g', e', l', p1, p2, p3, p4⟩ := Lbe (u := (s1, u.2)) w2b.1 hcn hy
        refine ⟨g', e', f, l', k2 + 1, hnext 0 _ hW ?_, p2, p3, fun a ha => (p4 a ha).imp (fun q => q.trans (hB1 a ha)) (fun q => q.trans z0)⟩
        unfold LN LB1
        rw [g10, if_neg (by rw [hnc]; omega), if_neg (by rw [hcj]; omega), g12, if_neg (by rw [hlt]; omega), p1, Option.bind_some]
      · rw [if_pos (show s1 7 ≤ nI c from by rw [hN7, hn7]; omega)] at hx
        have hr := (Option.some.inj hx).symm
        subst hr
        refine ⟨upd g1 3 1, ee, f, ll, k2, hnext 0 _ hW ?_, ?_, EN_n (by show upd s1 1 1 2 ≠ 1; rw [pk_un (by omega), z2]; decide), fun a ha => Or.inl ((show upd s1 1 1 (10 + 5 * a + 4) = s1 (10 + 5 * a + 4) from pk_un (by omega)).trans (hB1 a ha))⟩
        · unfold LN LG
          rw [g10, if_pos (by rw [hnc]; omega), if_pos (Int32.le_refl _), g12, if_pos (by rw [hle]; exact hgo)]
        · obtain ⟨⟨r1, r2, r3, a0, a1, a2, a3, a6, a7, a8, b7, b8, b9, hE, hF, hN⟩, hA⟩ := w2b
          have ss : ∀ j : Nat, j ≠ 1 → upd s1 1 1 j = s1 j := fun j hj => pk_un hj
          have gg : ∀ j : Nat, j ≠ 3 → upd g1 3 1 j = g1 j := fun j hj => pk_un hj
          show RW (upd g1 3 1) ee f ll (upd s1 1 1) n m k2
          exact ⟨⟨r1, r2, r3, (gg 0 (by omega)).trans a0, (gg 1 (by omega)).trans a1, ((gg 2 (by omega)).trans a2).trans (ss 0 (by omega)).symm, pk_us.trans pk_us.symm, ((gg 6 (by omega)).trans a6).trans (ss 5 (by omega)).symm, ((gg 7 (by omega)).trans a7).trans (ss 6 (by omega)).symm, (gg 8 (by omega)).trans a8, (ss 7 (by omega)).trans b7, (ss 8 (by omega)).trans b8, (ss 9 (by omega)).trans b9, EL_cg hE (fun i w hi hw => ss _ (by omega)), FL_cg hF (fun i w hi hw => ss _ (by omega)), NL_cg hN (fun i w hi hw => ss _ (by omega))⟩, AIR_cg hA (gg 4 (by omega)) (gg 5 (by omega)) (ss 0 (by omega)) (ss 2 (by omega)) (ss 3 (by omega)) (ss 4 (by omega))⟩
    · rw [if_neg (by rw [hle]; exact hgo)] at hx
      have hFN : FN s1 m := d5.2.1
      have hroom : t' - s1 0 = nI (tt - sec) := by rw [ht1, hs0, pk_sub (by omega)]
      obtain ⟨B, o1, o2, o3⟩ := Lch hm5 g11 hF1 hFN (show tt - sec ≤ 3600 by omega)
      obtain ⟨C, o4, o5, o6⟩ := ch7 (u := (s1, u.2)) hm w2b.1.2.2.2.2.2.2.2.2.2.2.2.1 (nI (tt - sec))
      obtain rfl := pBest_u o2 o3 o5 o6
      rw [hroom, o4, Option.bind_some, ← hroom] at hx
      have hsub : pSub B (pWm s1 m) := o2.elim (fun q => q ▸ pSub_0 _) (fun q => q.1)
      have hB : B < 1024 := pSub_lt hsub (Nat.lt_of_lt_of_le (pWm_lt s1 m) (Nat.pow_le_pow_right (n := 2) (by decide) hm))
      rw [ht1] at hx
      obtain ⟨g', e', f', l', p1, p2, p3, p4⟩ := Lga (w := (s1, u.2)) w2b hB hsub hs0 (show sec < tt by omega) ht2 hx
      have hW : LW g1 f (nI c) t' (nI c) = some (nI B) := by
        unfold LW
        rw [if_neg (by rw [hcj]; omega), g12, if_pos (by rw [hlt]; omega), hroom, o1, Option.bind_some]
      rw [← ht1] at p1
      refine ⟨g', e', f', l', k2 + 1, hnext (nI B) _ hW ?_, p2, EN_n p3, fun a ha => Or.inl ((p4 a ha).trans (hB1 a ha))⟩
      unfold LN
      by_cases hcn : c < n
      · rw [g10, if_neg (by rw [hnc]; omega), if_neg (by rw [hcj]; omega), g12, if_pos (by rw [hlt]; omega), p1]
      · rw [g10, if_pos (by rw [hnc]; omega), p1]
