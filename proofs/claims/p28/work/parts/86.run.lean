/-! The law's time beside the class's. -/
abbrev U2 : Type := FF × FF × FF × Int32 × FF × Int32 × Int32 × Int32 × Int32 × Int64
/-- something on the air goes on -/
theorem Lpa {G0 G1 G2 G3 g e f l s : FF} {u2 : U2} {n m k sec en lN T a : Nat} {y : Int32} {r : MV} (hT : T ≤ 2000000) (hR : RW g e f l s n m k) (hair : s 2 ≠ 0) (hov : s 1 = 0) (hsec : s 0 = nI sec) (hen : s 4 = nI en) (hlt : sec < en) (hen2 : en ≤ 90000) (hl1 : 1 ≤ lN) (haT : a + lN = T)
    (hx : r7pass (s, u2) (nI lN) = some (.inl (y, r))) :
    ∃ (d c : Nat) (g' e' f' : FF), 1 ≤ d ∧ d ≤ lN ∧ c ≤ d ∧ y = nI (lN - d) ∧ RW g' e' f' l r.1 n m k ∧ (EN s n → EN r.1 n) ∧ (∀ b : Nat, b < n → pB r.1 b = pB s b) ∧ ∀ (N : Nat) (R : Int32 × FF × FF × FF × FF), zloop (s_L_goes_3 G0 G1 G2 G3 (nI T)) N (nI (a + d), g', e', f', l) = some R → zloop (s_L_goes_3 G0 G1 G2 G3 (nI T)) (N + c) (nI a, g, e, f, l) = some R := by
  have hR' := hR
  obtain ⟨⟨r1, r2, r3, g0, g1, g2, g3, g6, g7, g8, s7, s8, s9, hE, hF, hN⟩, hA⟩ := hR
  have hdif : s 4 - s 0 = nI (en - sec) := by rw [hen, hsec, pk_sub (by omega)]
  have hg4 : g 4 ≠ 0 ∧ (g 4 = 40) = (s 2 = 3) ∧ g 5 = nI (en - sec) := by
    rcases hA with ⟨q, -⟩ | ⟨q, ⟨b, b1, b2, b3⟩, b4⟩ | ⟨q, ⟨b, b1, b2, b3⟩, b4⟩ | ⟨q, b3, b4⟩
    · exact absurd q hair
    · refine ⟨?_, ?_, b4.trans hdif⟩
      · rw [b3]
        show nI (1 + b) ≠ nI 0
        rw [Ne, nI_eq (by omega) (by omega)]; omega
      · rw [b3, q]
        apply propext
        show nI (1 + b) = nI 40 ↔ _
        rw [nI_eq (by omega) (by omega)]
        exact ⟨fun z => by omega, fun z => absurd z (by decide)⟩
    · refine ⟨?_, ?_, b4.trans hdif⟩
      · rw [b3]
        show nI (21 + b) ≠ nI 0
        rw [Ne, nI_eq (by omega) (by omega)]; omega
      · rw [b3, q]
        apply propext
        show nI (21 + b) = nI 40 ↔ _
        rw [nI_eq (by omega) (by omega)]
        exact ⟨fun z => by omega, fun z => absurd z (by decide)⟩
    · refine ⟨by rw [b3]; decide, ?_, b4.trans hdif⟩
      rw [b3, q]
      exact propext ⟨fun _ => rfl, fun _ => by decide⟩
  obtain ⟨h4, h40, h5⟩ := hg4
  -- how far
  obtain ⟨d, hd1, hd2, hd3, hd4, hgo⟩ : ∃ d : Nat, 1 ≤ d ∧ d ≤ en - sec ∧ d ≤ lN ∧ (d = en - sec ∨ d = lN) ∧ r7go (s, u2) (nI lN) (nI d) = some (.inl (y, r)) := by
    unfold r7pass at hx
    have hdif' : ((s, u2) : MV).1 4 - ((s, u2) : MV).1 0 = nI (en - sec) := hdif
    rw [hdif'] at hx
    by_cases hq : lN ≤ en - sec
    · rw [if_pos (by rw [nI_leI (by omega) (by omega)]; exact hq)] at hx
      exact ⟨lN, hl1, hq, Nat.le_refl _, Or.inr rfl, hx⟩
    · rw [if_neg (by rw [nI_leI (by omega) (by omega)]; exact hq)] at hx
      exact ⟨en - sec, by omega, Nat.le_refl _, by omega, Or.inl rfl, hx⟩
  obtain ⟨dl, hdl⟩ : ∃ dl : Int32, dl = (if s 2 = 3 then nI d else 0) := ⟨_, rfl⟩
  obtain ⟨s1, hs1⟩ : ∃ s1 : FF, s1 = upd (upd s 0 ((s 0) + nI d)) 5 (((upd s 0 ((s 0) + nI d)) 5) + dl) := ⟨_, rfl⟩
  have hend : r7end (s, u2) (nI lN - nI d) s1 = some (.inl (y, r)) := by
    unfold r7go at hgo
    have h2 : upd ((s, u2) : MV).1 0 ((((s, u2) : MV).1 0) + nI d) 2 = s 2 := pk_un (by omega)
    rw [h2] at hgo
    by_cases hq : s 2 = 3
    · rw [if_pos hq] at hgo
      rw [hs1, hdl, if_pos hq]
      exact hgo
    · rw [if_neg hq] at hgo
      rw [hs1, hdl, if_neg hq]
      exact hgo
  have y0 : s1 0 = nI (sec + d) := by rw [hs1, pk_un (by omega), pk_us, hsec, nI_add]
  have y5 : s1 5 = s 5 + dl := by rw [hs1, pk_us, pk_un (by omega)]
  have yj : ∀ j : Nat, j ≠ 0 → j ≠ 5 → s1 j = s j := fun j j0 j5 => by rw [hs1, pk_un j5, pk_un j0]
  obtain ⟨c, gm, c1, c2, c3, c4, c5, c6, c7⟩ := Lma (G0 := G0) (G1 := G1) (G2 := G2) (G3 := G3) hT d d (Nat.le_refl _) hd1 g e f l (en - sec) a (g3.trans hov) h4 h5 (by omega) hd2 (by omega) (by omega)
  have hRm : RW gm e f l s1 n m k := by
    refine ⟨⟨r1, r2, r3, (c2 0 (by omega) (by omega) (by omega)).trans g0, (c2 1 (by omega) (by omega) (by omega)).trans g1, ?_, ?_, ?_, ?_, (c2 8 (by omega) (by omega) (by omega)).trans g8, (yj 7 (by omega) (by omega)).trans s7, (yj 8 (by omega) (by omega)).trans s8, (yj 9 (by omega) (by omega)).trans s9, EL_cg hE (fun i w hi hw => yj _ (by omega) (by omega)), FL_cg hF (fun i w hi hw => yj _ (by omega) (by omega)), NL_cg hN (fun i w hi hw => yj _ (by omega) (by omega))⟩, ?_⟩
    · rw [c3, g2, y0, hsec, nI_add]
    · exact ((c2 3 (by omega) (by omega) (by omega)).trans g3).trans (yj 1 (by omega) (by omega)).symm
    · rw [c5, g6, y5, hdl]
      simp only [h40]
    · exact ((c2 7 (by omega) (by omega) (by omega)).trans g7).trans (yj 6 (by omega) (by omega)).symm
    · have e4 : gm 4 = g 4 := c2 4 (by omega) (by omega) (by omega)
      have e5 : gm 5 = s1 4 - s1 0 := by rw [c4, yj 4 (by omega) (by omega), y0, hen, pk_sub (by omega), show en - (sec + d) = en - sec - d by omega]
      unfold AIR at hA ⊢
      rw [e4, yj 2 (by omega) (by omega), yj 3 (by omega) (by omega)]
      rcases hA with ⟨q, -⟩ | ⟨q, b3, -⟩ | ⟨q, b3, -⟩ | ⟨q, b3, -⟩
      · exact absurd q hair
      · exact Or.inr (Or.inl ⟨q, b3, e5⟩)
      · exact Or.inr (Or.inr (Or.inl ⟨q, b3, e5⟩))
      · exact Or.inr (Or.inr (Or.inr ⟨q, b3, e5⟩))
  have hy : nI lN - nI d = nI (lN - d) := pk_sub hd3
  unfold r7end at hend
  by_cases hq : s1 0 = s1 4
  · rw [if_pos hq, hy] at hend
    obtain ⟨w, hw, hend⟩ := ob hend
    have hi := Sum.inl.inj (Option.some.inj hend)
    obtain rfl : nI (lN - d) = y := congrArg Prod.fst hi
    obtain rfl : w = r := congrArg Prod.snd hi
    have hw' : f_X7_endsOnAir (s1, u2) = some w := hw
    have hz : en - sec - d = 0 := by
      rw [y0, yj 4 (by omega) (by omega), hen, nI_eq (by omega) (by omega)] at hq
      omega
    obtain ⟨e', f', p1, p2, p3, p4⟩ := Ldo (u := (s1, u2)) hRm (by show s1 2 ≠ 0; rw [yj 2 (by omega) (by omega)]; exact hair) hw'
    exact ⟨d, c, _, e', f', hd1, hd3, c1, rfl, p2, fun _ => EN_n (by rw [p3]; decide), fun b hb => (p4 b hb).trans (yj _ (by omega) (by omega)), c7 hz _ e' f' p1⟩
  · rw [if_neg hq, hy] at hend
    have hi := Sum.inl.inj (Option.some.inj hend)
    obtain rfl : nI (lN - d) = y := congrArg Prod.fst hi
    have hr : ((s1, u2) : MV) = r := congrArg Prod.snd hi
    subst hr
    have hz : en - sec - d ≠ 0 := fun z => hq (by rw [y0, yj 4 (by omega) (by omega), hen, show sec + d = en by omega])
    exact ⟨d, c, gm, e, f, hd1, hd3, c1, rfl, hRm, fun hEN b hb q2 q3 => by
      have q2' : s1 2 = 1 := q2
      have q3' : s1 3 = nI b := q3
      have w1 : pB s1 b = pB s b := yj _ (by omega) (by omega)
      have w2 : pL s1 b = pL s b := yj _ (by omega) (by omega)
      have w3 : pS s1 b = pS s b := yj _ (by omega) (by omega)
      show pS s1 b = 1 ∧ s1 4 = pB s1 b + pL s1 b
      rw [yj 4 (by omega) (by omega), w1, w2, w3]
      exact hEN b hb ((yj 2 (by omega) (by omega)).symm.trans q2') ((yj 3 (by omega) (by omega)).symm.trans q3'), fun b hb => yj _ (by omega) (by omega), c6 hz⟩
/-- two loops, the second with some turns for each of the first -/
theorem zl2s {σ ρ σ' ρ' : Type} {f : σ → Option (σ ⊕ ρ)} {g : σ' → Option (σ' ⊕ ρ')} (I : Nat → Nat → σ → σ' → Prop) (Q : ρ → ρ' → Prop)
    (hs : ∀ (k b : Nat) (x : σ) (y : σ'), I k b x y → (∃ r r', f x = some (.inr r) ∧ g y = some (.inr r') ∧ Q r r') ∨ (∃ k' b' c x' y', f x = some (.inl x') ∧ k' < k ∧ b' + c ≤ b ∧ (∀ (N : Nat) (R : ρ'), zloop g N y' = some R → zloop g (N + c) y = some R) ∧ I k' b' x' y')) :
    ∀ (n k b : Nat) (x : σ) (y : σ'), k < n → I k b x y → ∃ r r', zloop f n x = some r ∧ zloop g (b + 1) y = some r' ∧ Q r r' := by
  intro n
  induction n with
  | zero => intro k b x y hk; exact absurd hk (Nat.not_lt_zero _)
  | succ n ih =>
    intro k b x y hk hI
    rcases hs k b x y hI with ⟨r, r', h1, h2, h3⟩ | ⟨k', b', c, x', y', h1, h2, h3, h4, h5⟩
    · exact ⟨r, r', zl_r h1 n, zl_r h2 b, h3⟩
    · obtain ⟨r, r', q1, q2, q3⟩ := ih k' b' x' y' (by omega) h5
      exact ⟨r, r', by rw [zl_l h1 n]; exact q1, zl_mono _ _ _ _ (h4 _ _ q2) (by omega), q3⟩
theorem Lrun {E : Prop} {h : HV} {s : FF} (u2 : U2) {n m k sec lN T : Nat} {L : Int32} {g e f l : FF} (h0 : HR0 h s n m) (hl : LB E h.2.2.1 s k) (hin : pIn s n m k) (hR : RW g e f l s n m k) (hEN : EN s n) (hOV : s 1 = 1 → s 2 = 0) (hBG : BG s n) (hsec : s 0 = nI sec) (hsec2 : sec < 2 ^ 31) (hT : sec + lN = T) (hL : pLim L T) (hlN : lN ≤ 1000000) :
    ∃ (h' : HV) (s' : FF) (k' sec' lN' : Nat) (g' e' f' l' : FF), f_X2_runTo h L = some h' ∧ f_L_goes g e f l (nI lN) = some (nI (lN - lN'), g', e', f', l') ∧ HR0 h' s' n m ∧ LB E h'.2.2.1 s' k' ∧ pIn s' n m k' ∧ RW g' e' f' l' s' n m k' ∧ s' 0 = nI sec' ∧ sec' < 2 ^ 31 ∧ sec' + lN' = T ∧ lN' ≤ lN ∧ EN s' n ∧ (s' 1 = 1 → s' 2 = 0) ∧ BG s' n := by
  have hT9 : T ≤ 200000000 := by rcases hL with ⟨-, q⟩ | ⟨-, -, q⟩ <;> omega
  obtain ⟨T0, hT0⟩ : ∃ T0 : Nat, T0 = lN := ⟨_, rfl⟩
  obtain ⟨r, r', e1, e2, c, h', s', k', sec', lN', ga, ea, fa, la, rfl, rfl, g1, g2, g3, g4, g5, g6, g7, g8, gE, gO, gB⟩ := zl2s (f := s_X2_runTo_2 h L) (g := s_L_goes_3 g e f l (nI T0))
    (fun kk b x y => ∃ (c k : Nat) (h' : HV) (s' : FF) (sec lN : Nat) (ga ea fa la : FF), kk = pMs s' k lN ∧ c + pMs s' k lN ≤ 72 ∧ x = (nI c, h') ∧ y = (nI (T0 - lN), ga, ea, fa, la) ∧ HR0 h' s' n m ∧ LB E h'.2.2.1 s' k ∧ pIn s' n m k ∧ RW ga ea fa la s' n m k ∧ s' 0 = nI sec ∧ sec < 2 ^ 31 ∧ sec + lN = T ∧ lN ≤ T0 ∧ lN ≤ b ∧ (s' 1 = 0 → lN + 1 ≤ b) ∧ EN s' n ∧ (s' 1 = 1 → s' 2 = 0) ∧ BG s' n)
    (fun r r' => ∃ (c : Nat) (h' : HV) (s' : FF) (k' sec' lN' : Nat) (ga ea fa la : FF), r = (nI c, h') ∧ r' = (nI (T0 - lN'), ga, ea, fa, la) ∧ HR0 h' s' n m ∧ LB E h'.2.2.1 s' k' ∧ pIn s' n m k' ∧ RW ga ea fa la s' n m k' ∧ s' 0 = nI sec' ∧ sec' < 2 ^ 31 ∧ sec' + lN' = T ∧ lN' ≤ T0 ∧ EN s' n ∧ (s' 1 = 1 → s' 2 = 0) ∧ BG s' n)
    (by
      rintro kk b x y ⟨c, k, h', s', sec, lN, ga, ea, fa, la, rfl, hc, rfl, rfl, g1, g2, g3, gR, g4, g5, g6, g7, g8, g9, gE, gO, gB⟩
      have hn := g1.1.1
      have hm := g1.2.1.1
      have hk : k ≤ 35 := pIn_k hn hm g3
      have aE : pCE s' n ≤ n := pC_le _ n
      have aF : pCF s' m ≤ m := pC_le _ m
      have hsm : sec ≤ 90000 := by
        obtain ⟨-, -, -, sc, b1, b2, -⟩ := g3
        rw [g4, nI_eq g5 (by omega)] at b1
        omega
      have hs0 : h'.2.2.2.1 = nI sec := g1.2.2.1.trans g4
      have hov : zb h'.2.2.2.2.1 = s' 1 := g1.2.2.2.1
      have hcond : (L ≤ h'.2.2.2.1) = (lN = 0) := by
        rw [hs0]
        apply propext
        rcases hL with ⟨q, -⟩ | ⟨q, q2, -⟩
        · rw [q, nI_leI (by omega) (by omega)]; omega
        · rw [q]
          show nI 1000000 ≤ nI sec ↔ lN = 0
          rw [nI_leI (by omega) (by omega)]; omega
      have hcond2 : (nI T0 ≤ nI (T0 - lN)) = (lN = 0) := by
        apply propext
        rw [nI_leI (by omega) (by omega)]; omega
      have h1000 : ¬ (1000 : Int32) ≤ nI c := by
        show ¬ nI 1000 ≤ nI c
        rw [nI_leI (by omega) (by omega)]; omega
      have hg3 : ga 3 = s' 1 := gR.1.2.2.2.2.2.2.1
      have hleft : ∃ (c' : Nat) (h'' : HV) (s'' : FF) (k' sec' lN' : Nat) (ga' ea' fa' la' : FF), ((nI c, h') : Int32 × HV) = (nI c', h'') ∧ ((nI (T0 - lN), ga, ea, fa, la) : Int32 × FF × FF × FF × FF) = (nI (T0 - lN'), ga', ea', fa', la') ∧ HR0 h'' s'' n m ∧ LB E h''.2.2.1 s'' k' ∧ pIn s'' n m k' ∧ RW ga' ea' fa' la' s'' n m k' ∧ s'' 0 = nI sec' ∧ sec' < 2 ^ 31 ∧ sec' + lN' = T ∧ lN' ≤ T0 ∧ EN s'' n ∧ (s'' 1 = 1 → s'' 2 = 0) ∧ BG s'' n := ⟨c, h', s', k, sec, lN, ga, ea, fa, la, rfl, rfl, g1, g2, g3, gR, g4, g5, g6, g7, gE, gO, gB⟩
      have hlaw := LSe g e f l (nI T0) (nI (T0 - lN), ga, ea, fa, la)
      dsimp only at hlaw
      simp only [hcond2] at hlaw
      have hcls : s_X2_runTo_2 h L (nI c, h') = s_X2_runTo_2 h L (nI c, h') := rfl
      conv at hcls => rhs; unfold s_X2_runTo_2
      dsimp only at hcls
      simp only [hcond, hov] at hcls
      rw [if_neg h1000] at hcls
      by_cases hl0 : lN = 0
      · rw [if_pos hl0] at hcls hlaw
        exact Or.inl ⟨_, _, hcls, hlaw, hleft⟩
      · rw [if_neg hl0] at hcls hlaw
        by_cases ho : s' 1 = 0
        · have hg30 : ga 3 = 0 := hg3.trans ho
          rw [if_pos hg30] at hlaw
          simp only [if_pos ho] at hcls
          have hb := g9 ho
          by_cases hair : s' 2 = 0
          · have hkind : h'.2.2.2.2.2.2.2.2.1 = -1 := by
              obtain ⟨-, -, -, -, -, -, -, r8⟩ := g1
              rcases r8 with ⟨r8, -⟩ | ⟨a, a1, -, a3, -⟩
              · exact r8
              · rw [hair] at a3
                have a3' : nI 0 = nI (a + 1) := a3
                rw [nI_eq (by omega) (by omega)] at a3'
                omega
            have hg4 : ga 4 = 0 := by
              rcases gR.2 with ⟨-, q, -⟩ | ⟨q, -⟩ | ⟨q, -⟩ | ⟨q, -⟩
              · exact q
              · rw [hair] at q; exact absurd q (by decide)
              · rw [hair] at q; exact absurd q (by decide)
              · rw [hair] at q; exact absurd q (by decide)
            obtain ⟨h1, s1, k1, f1, f2, f3, f4, f5, f6, f7⟩ := find2 (u := (s', u2)) g1 g2 g3 hair ho
            obtain ⟨gb, eb, fb, lb, kb, w1, w2, wE, wB⟩ := Lnx (u := (s', u2)) g1 g2 g3 gR hair f2
            have hk1 : k1 ≤ 35 := pIn_k hn hm f5
            have gB1 : BG s1 n := fun a ha => by
              rcases wB a ha with q | q
              · have q' : pB s1 a = pB s' a := q
                rw [q']
                exact gB a ha
              · have q' : pB s1 a = s' 0 := q
                exact Or.inr ⟨sec, by omega, q'.trans g4⟩
            obtain rfl : kb = k1 := by
              have q1 : s1 9 = nI kb := w2.1.2.2.2.2.2.2.2.2.2.2.2.2.1
              have q2 : s1 9 = nI k1 := f4.2.1
              have q3 := w2.1.2.2.1
              rw [q1, nI_eq (by omega) (by omega)] at q2
              exact q2
            have w2' : RW gb eb fb lb s1 n m kb := w2
            have f6' : s1 0 = nI sec := f6.trans g4
            have hov1 : zb h1.2.2.2.2.1 = s1 1 := f3.2.2.2.1
            have hgb3 : gb 3 = s1 1 := w2'.1.2.2.2.2.2.2.1
            rw [if_pos hg4, w1, Option.bind_some] at hlaw
            dsimp only at hlaw
            rw [if_pos hkind, f1, Option.bind_some] at hcls
            simp only [hov1] at hcls
            rcases f7 with ⟨f7, f8⟩ | ⟨f7, f8, f9⟩
            · rw [if_neg (by rw [f7]; decide)] at hcls
              rw [if_neg (by rw [hgb3, f7]; decide)] at hlaw
              have hms : pMs s1 kb lN = 0 := by unfold pMs; rw [if_pos (Or.inl f7)]
              have hms0 : 0 < pMs s' k lN := by
                unfold pMs
                rw [if_neg (by rw [ho]; rintro (q | q); exact absurd q (by decide); exact hl0 q)]
                omega
              exact Or.inr ⟨0, lN, 1, (nI c + 1, h1), (nI (T0 - lN), gb, eb, fb, lb), hcls, hms0, by omega, fun N R hr => zl_lead hlaw N R hr, c + 1, kb, h1, s1, sec, lN, gb, eb, fb, lb, hms.symm, by omega, by rw [nI_1], rfl, f3, f4, f5, w2', f6', g5, g6, g7, Nat.le_refl _, fun q => by rw [f7] at q; exact absurd q (by decide), wE, fun _ => f8, gB1⟩
            · rw [if_pos f7] at hcls
              rw [if_pos (by rw [hgb3, f7])] at hlaw
              obtain ⟨h2, s2, sec2, lN2, p1, p2, p3, p4, p5, p6, p7, p8, p9, p10⟩ := pass2 (u := (s1, u2)) f3 f4 f5 f8 f6' g5 g6 hL
              rw [p1, Option.bind_some] at hcls
              obtain ⟨en, hen, hen1, hen2⟩ : ∃ en : Nat, s1 4 = nI en ∧ sec < en ∧ en ≤ 90000 := by
                have aE1 : pCE s1 n ≤ n := pC_le _ n
                have aF1 : pCF s1 m ≤ m := pC_le _ m
                obtain ⟨-, -, -, sc, b1, b2, b4⟩ := f5
                obtain rfl : sc = sec := by
                  rw [f6', nI_eq g5 (by omega)] at b1
                  exact b1.symm
                rcases b4 with ⟨b4, -⟩ | ⟨en, c1, c2, c3, -⟩
                · exact absurd b4 f8
                · exact ⟨en, c1, c2, by omega⟩
              obtain ⟨d, cc, gc, ec, fc, d1, d2, d3, d4, d5, d6, dB, d7⟩ := Lpa (G0 := g) (G1 := e) (G2 := f) (G3 := l) (T := T0) (a := T0 - lN) (by omega) w2' f8 f7 f6' hen hen1 hen2 (by omega) (by omega) p2
              have hlN2 : lN2 = lN - d := by
                rw [nI_eq (by omega) (by omega)] at d4
                exact d4
              have hms : pMs s2 kb lN2 ≤ 1 + 2 * (35 - kb) := by
                unfold pMs
                split
                · omega
                · rename_i q
                  rw [if_pos (p10.resolve_right (fun z => q (Or.inr z)))]
                  omega
              have hms0 : pMs s' k lN = 1 + 2 * (35 - k) := by
                unfold pMs
                rw [if_neg (by rw [ho]; rintro (q | q); exact absurd q (by decide); exact hl0 q), if_pos hair, Nat.add_zero]
              have hfirst : ∀ (N : Nat) (R : Int32 × FF × FF × FF × FF), zloop (s_L_goes_3 g e f l (nI T0)) N (nI (T0 - lN), gb, eb, fb, lb) = some R → zloop (s_L_goes_3 g e f l (nI T0)) N (nI (T0 - lN), ga, ea, fa, la) = some R := fun N R hr => by
                cases N with
                | zero => exact absurd hr (by simp [zloop])
                | succ N =>
                  have hb4 : gb 4 ≠ 0 := by
                    rcases w2'.2 with ⟨q, -⟩ | ⟨-, ⟨b, b1, b2, b3⟩, -⟩ | ⟨-, ⟨b, b1, b2, b3⟩, -⟩ | ⟨-, b3, -⟩
                    · exact absurd q f8
                    · rw [b3]
                      show nI (1 + b) ≠ nI 0
                      rw [Ne, nI_eq (by omega) (by omega)]; omega
                    · rw [b3]
                      show nI (21 + b) ≠ nI 0
                      rw [Ne, nI_eq (by omega) (by omega)]; omega
                    · rw [b3]; decide
                  have hsame : s_L_goes_3 g e f l (nI T0) (nI (T0 - lN), gb, eb, fb, lb) = LStp gb eb fb lb (nI T0) (nI (T0 - lN)) := by
                    rw [LSe]
                    dsimp only
                    rw [if_neg (by rw [hcond2]; exact hl0), if_pos (hgb3.trans f7), if_neg hb4, if_pos (hgb3.trans f7)]
                  rw [zloop, hsame] at hr
                  rw [zloop, hlaw]
                  exact hr
              exact Or.inr ⟨pMs s2 kb lN2, b - cc, cc, (nI c + 1, h2), (nI (T0 - lN + d), gc, ec, fc, lb), hcls, by omega, by omega, fun N R hr => hfirst _ _ (d7 N R hr), c + 1, kb, h2, s2, sec2, lN2, gc, ec, fc, lb, rfl, by omega, by rw [nI_1], by rw [hlN2, show T0 - lN + d = T0 - (lN - d) by omega], p3, p4, p5, d5, p6, p7, p8, by omega, by omega, fun _ => by omega, d6 wE, fun q => by rw [p9] at q; exact absurd (f7.symm.trans q) (by decide), fun a ha => by rw [show pB s2 a = pB s1 a from dB a ha]; exact gB1 a ha⟩
          · have hkind : ¬ h'.2.2.2.2.2.2.2.2.1 = -1 := by
              obtain ⟨-, -, -, -, -, -, -, r8⟩ := g1
              rcases r8 with ⟨-, r8⟩ | ⟨a, a1, a2, -, -⟩
              · exact absurd r8 hair
              · rw [a2]
                exact of_eq_false (ne1_n (by omega))
            rw [if_neg hkind] at hcls
            obtain ⟨h2, s2, sec2, lN2, p1, p2, p3, p4, p5, p6, p7, p8, p9, p10⟩ := pass2 (u := (s', u2)) g1 g2 g3 hair g4 g5 g6 hL
            rw [p1, Option.bind_some] at hcls
            obtain ⟨en, hen, hen1, hen2⟩ : ∃ en : Nat, s' 4 = nI en ∧ sec < en ∧ en ≤ 90000 := by
              obtain ⟨-, -, -, sc, b1, b2, b4⟩ := g3
              obtain rfl : sc = sec := by
                rw [g4, nI_eq g5 (by omega)] at b1
                exact b1.symm
              rcases b4 with ⟨b4, -⟩ | ⟨en, c1, c2, c3, -⟩
              · exact absurd b4 hair
              · exact ⟨en, c1, c2, by omega⟩
            obtain ⟨d, cc, gc, ec, fc, d1, d2, d3, d4, d5, d6, dB, d7⟩ := Lpa (G0 := g) (G1 := e) (G2 := f) (G3 := l) (T := T0) (a := T0 - lN) (by omega) gR hair ho g4 hen hen1 hen2 (by omega) (by omega) p2
            have hlN2 : lN2 = lN - d := by
              rw [nI_eq (by omega) (by omega)] at d4
              exact d4
            have hms : pMs s2 k lN2 ≤ 1 + 2 * (35 - k) := by
              unfold pMs
              split
              · omega
              · rename_i q
                rw [if_pos (p10.resolve_right (fun z => q (Or.inr z)))]
                omega
            have hms0 : pMs s' k lN = 1 + 2 * (35 - k) + 1 := by
              unfold pMs
              rw [if_neg (by rw [ho]; rintro (q | q); exact absurd q (by decide); exact hl0 q), if_neg hair]
            exact Or.inr ⟨pMs s2 k lN2, b - cc, cc, (nI c + 1, h2), (nI (T0 - lN + d), gc, ec, fc, la), hcls, by omega, by omega, d7, c + 1, k, h2, s2, sec2, lN2, gc, ec, fc, la, rfl, by omega, by rw [nI_1], by rw [hlN2, show T0 - lN + d = T0 - (lN - d) by omega], p3, p4, p5, d5, p6, p7, p8, by omega, by omega, fun _ => by omega, d6 gE, fun q => by rw [p9] at q; exact absurd (ho.symm.trans q) (by decide), fun a ha => by rw [show pB s2 a = pB s' a from dB a ha]; exact gB a ha⟩
        · rw [if_neg (fun q => ho (hg3.symm.trans q))] at hlaw
          simp only [if_neg ho] at hcls
          exact Or.inl ⟨_, _, hcls, hlaw, hleft⟩)
    4096 (pMs s k lN) (lN + 1) (nI 0, h) (nI (T0 - lN), g, e, f, l) (by have := pMs_le s k lN; omega)
    ⟨0, k, h, s, sec, lN, g, e, f, l, rfl, by have := pMs_le s k lN; omega, rfl, rfl, h0, hl, hin, hR, hsec, hsec2, hT, by omega, by omega, fun _ => Nat.le_refl _, hEN, hOV, hBG⟩
  refine ⟨h', s', k', sec', lN', ga, ea, fa, la, ?_, ?_, g1, g2, g3, g4, g5, g6, g7, by omega, gE, gO, gB⟩
  · unfold f_X2_runTo
    have e1' : zloop (s_X2_runTo_2 h L) 4096 (0, h) = some (nI c, h') := e1
    rw [e1']
    rfl
  · subst hT0
    rw [Nat.sub_self] at e2
    have e2' : zloop (s_L_goes_3 g e f l (nI T0)) 4000000 (0, g, e, f, l) = some (nI (T0 - lN'), ga, ea, fa, la) := zl_mono _ _ _ _ e2 (by omega)
    unfold f_L_goes
    rw [e2', Option.bind_some]
