/-! The pure part: the digest. -/
theorem pF_three {α : Type} (H : Nat → α → α) : ∀ (m i : Nat) (x : α), pF H (3 * m) (3 * i) x = pF (fun a x => H (3 * a + 2) (H (3 * a + 1) (H (3 * a) x))) m i x := by
  intro m
  induction m with
  | zero => intro i x; rfl
  | succ m ih =>
    intro i x
    show pF H (3 * m + 3) (3 * i) x = pF _ m (i + 1) (H (3 * i + 2) (H (3 * i + 1) (H (3 * i) x)))
    rw [← ih (i + 1)]
    rfl
def dH (h : Int64) (x : Int32) : Int64 := ((31 : Int64) * h) + (Int32.toInt64 x)
/-- the reference with another hash -/
def uH (u : MV) (h : Int64) : MV := (u.1, u.2.1, u.2.2.1, u.2.2.2.1, u.2.2.2.2.1, u.2.2.2.2.2.1, u.2.2.2.2.2.2.1, u.2.2.2.2.2.2.2.1, u.2.2.2.2.2.2.2.2.1, u.2.2.2.2.2.2.2.2.2.1, h)
theorem mixH (u : MV) (h : Int64) (x : Int32) : f_X7_mix (uH u h) x = some (uH u (dH h x)) := rfl
theorem fn1 {γ : Type} (N : Nat) (P : Nat → γ → Prop) (d : γ) (h : ∀ w : Nat, w < N → ∃ b : γ, P w b) : ∃ f : Nat → γ, ∀ w : Nat, w < N → P w (f w) := by
  refine ⟨fun w => if q : w < N then (h w q).choose else d, fun w hw => ?_⟩
  show P w (if q : w < N then (h w q).choose else d)
  rw [dif_pos hw]
  exact (h w hw).choose_spec
theorem dg_v {hh : HV} {u : MV} {n m k : Nat} (g1 : HR0 hh u.1 n m) (g2 : LR hh.2.2.1 u.1 k) (g3 : pIn u.1 n m k) : ∃ V : Nat → Int32, ∀ w : Nat, w < 14 → f_X2_tell hh (nI w) = some (V w) ∧ ∀ h : Int64, f_X7_valueOf (uH u h) (nI w) = some (V w) := by
  refine fn1 14 (fun w b => f_X2_tell hh (nI w) = some b ∧ ∀ h : Int64, f_X7_valueOf (uH u h) (nI w) = some b) 0 (fun w hw => ?_)
  obtain ⟨b, c1, -⟩ := val2 g1 g2 g3 (w := w) (by omega)
  refine ⟨b, c1, fun h => ?_⟩
  obtain ⟨b', d1, d2⟩ := val2 (u := uH u h) g1 g2 g3 (w := w) (by omega)
  rw [c1] at d1
  rw [d2, Option.some.inj d1]
theorem dg_e {hh : HV} {u : MV} {n m : Nat} (g1 : HR0 hh u.1 n m) {a : Nat} (ha : a < n) : ∃ V : Nat → Int32, ∀ w : Nat, w < 7 → f_X0_tell hh.1 (nI a) (nI w) = some (V w) ∧ ∀ h : Int64, f_X7_elementOf (uH u h) (nI a) (nI w) = some (V w) := by
  refine fn1 7 (fun w b => f_X0_tell hh.1 (nI a) (nI w) = some b ∧ ∀ h : Int64, f_X7_elementOf (uH u h) (nI a) (nI w) = some b) 0 (fun w hw => ?_)
  obtain ⟨b, c1, -⟩ := tell2 (u := u) g1.1 ha (w := w) (by omega)
  refine ⟨b, c1, fun h => ?_⟩
  obtain ⟨b', d1, d2⟩ := tell2 (u := uH u h) g1.1 ha (w := w) (by omega)
  rw [c1] at d1
  rw [d2, Option.some.inj d1]
theorem dg_b {hh : HV} {u : MV} {n m : Nat} (g1 : HR0 hh u.1 n m) {a : Nat} (ha : a < n) : ∃ b : Int32, f_X0_latestBegin hh.1 (nI a) = some b ∧ ∀ h : Int64, f_X7_backOf (uH u h) (nI a) = some b := by
  obtain ⟨b, c1, -⟩ := bk2 (u := u) g1.1 ha
  refine ⟨b, c1, fun h => ?_⟩
  obtain ⟨b', d1, d2⟩ := bk2 (u := uH u h) g1.1 ha
  rw [c1] at d1
  rw [d2, Option.some.inj d1]
theorem A_digest : zA_digest Rel := by
  intro v u hR
  obtain ⟨hH, hS, hT⟩ := hR
  have hH0 := hH
  have hS0 := hS
  obtain ⟨cn, cn1, cn2, cn3, -⟩ := hS0
  have hT0 := hT
  obtain ⟨tk, tk1, tk2, tk3, -⟩ := hT0
  obtain ⟨n, m, k, g1, g2, g3⟩ := hH
  have hn := g1.1.1
  have hm := g1.2.1.1
  have hk := g2.1
  obtain ⟨R, hRr⟩ : ∃ R : Int32 × FF × Int32 × Int32 × Int32 × Int32 × Int64, R = (u.2.2.2.2.1, u.2.2.2.2.2.1, u.2.2.2.2.2.2.1, 0, u.2.2.2.2.2.2.2.2) := ⟨_, rfl⟩
  obtain ⟨h', u4, a', t', k', e1, e2, e3, e4, e5, e6⟩ := for2 (v := v) (u := (u.1, u.2.1, u.2.2.1, u.2.2.2.1, R)) g1 g2 g3
  have g1' : HR0 v.1 u4 n m := HR0_cg g1 (fun j q1 _ => e3 j (by omega))
  have g2' : LR v.1.2.2.1 u4 k := LR_cg g2 (fun j q1 _ => e3 j q1)
  have g3' : pIn u4 n m k := pIn_cg hn hm g3 (fun j q1 _ => e3 j (by omega))
  obtain ⟨U, hU⟩ : ∃ U : MV, U = (u4, u.2.1, a', t', R) := ⟨_, rfl⟩
  have hU1 : U.1 = u4 := by rw [hU]
  have hU4 : U.2.2.2.1 = t' := by rw [hU]
  obtain ⟨C, hC⟩ : ∃ C : CV, C = (v.1, h', v.2.2.1, v.2.2.2.1, v.2.2.2.2) := ⟨_, rfl⟩
  have hC1 : C.1 = v.1 := by rw [hC]
  have hC2 : C.2.1 = h' := by rw [hC]
  have gU1 : HR0 v.1 U.1 n m := by rw [hU1]; exact g1'
  have gU2 : LR v.1.2.2.1 U.1 k := by rw [hU1]; exact g2'
  have gU3 : pIn U.1 n m k := by rw [hU1]; exact g3'
  -- the values
  obtain ⟨V, hV⟩ := dg_v gU1 gU2 gU3
  have l28 : ∀ h : Int64, zloop (s_X6_digest_28 C) 4096 (h, 0) = some (pF (fun w h => dH h (V w)) 14 0 h, nI 14) := fun h => by
    have q := zlF' (f := s_X6_digest_28 C) (fun a (x : Int64) => (x, nI a)) (fun x => (x, nI 14)) (fun w h => dH h (V w)) 14
      (fun a x ha => by
        unfold s_X6_digest_28
        show (if 13 < nI a then _ else (f_X2_tell C.1 (nI a)).bind _) = _
        rw [if_neg (show ¬ (13 : Int32) < nI a by show ¬ nI 13 < nI a; rw [nI_ltI (by omega) (by omega)]; omega), hC1, (hV a ha).1, Option.bind_some, nI_1]
        rfl)
      (fun x => by
        unfold s_X6_digest_28
        show (if 13 < nI 14 then _ else _) = _
        rw [if_pos (by decide)]) 14 0 h 4096 (by omega) (by omega)
    exact q
  have l26 : ∀ (w : MV) (h : Int64), zloop (s_X7_digest_26 w) 4096 (0, uH U h) = some (nI 14, uH U (pF (fun w h => dH h (V w)) 14 0 h)) := fun w h => by
    have q := zlF' (f := s_X7_digest_26 w) (fun a (x : Int64) => (nI a, uH U x)) (fun x => (nI 14, uH U x)) (fun w h => dH h (V w)) 14
      (fun a x ha => by
        unfold s_X7_digest_26
        show (if 14 ≤ nI a then _ else (f_X7_valueOf (uH U x) (nI a)).bind _) = _
        rw [if_neg (show ¬ (14 : Int32) ≤ nI a by show ¬ nI 14 ≤ nI a; rw [nI_leI (by omega) (by omega)]; omega), (hV a ha).2 x, Option.bind_some]
        show (f_X7_mix (uH U x) (V a)).bind _ = _
        rw [mixH, Option.bind_some, nI_1])
      (fun x => by
        unfold s_X7_digest_26
        show (if 14 ≤ nI 14 then _ else _) = _
        rw [if_pos (by decide)]) 14 0 h 4096 (by omega) (by omega)
    exact q
  -- the elements
  obtain ⟨W, hW⟩ := fn1 n (fun a (b : (Nat → Int32) × Int32) => (∀ w : Nat, w < 7 → f_X0_tell v.1.1 (nI a) (nI w) = some (b.1 w) ∧ ∀ h : Int64, f_X7_elementOf (uH U h) (nI a) (nI w) = some (b.1 w)) ∧ f_X0_latestBegin v.1.1 (nI a) = some b.2 ∧ ∀ h : Int64, f_X7_backOf (uH U h) (nI a) = some b.2) (fun _ => 0, 0) (fun a ha => by
    obtain ⟨V, hV⟩ := dg_e gU1 ha
    obtain ⟨b, hb1, hb2⟩ := dg_b gU1 ha
    exact ⟨(V, b), hV, hb1, hb2⟩)
  have l79 : ∀ (a : Nat), a < n → ∀ h : Int64, zloop (s_X6_digest_79 C (nI a)) 4096 (h, 0) = some (pF (fun w h => dH h ((W a).1 w)) 7 0 h, nI 7) := fun a ha h => by
    have q := zlF' (f := s_X6_digest_79 C (nI a)) (fun a (x : Int64) => (x, nI a)) (fun x => (x, nI 7)) (fun w h => dH h ((W a).1 w)) 7
      (fun b x hb => by
        unfold s_X6_digest_79
        show (if 6 < nI b then _ else (f_X0_tell C.1.1 (nI a) (nI b)).bind _) = _
        rw [if_neg (show ¬ (6 : Int32) < nI b by show ¬ nI 6 < nI b; rw [nI_ltI (by omega) (by omega)]; omega), hC1, ((hW a ha).1 b hb).1, Option.bind_some, nI_1]
        rfl)
      (fun x => by
        unfold s_X6_digest_79
        show (if 6 < nI 7 then _ else _) = _
        rw [if_pos (by decide)]) 7 0 h 4096 (by omega) (by omega)
    exact q
  have l62 : ∀ (a : Nat), a < n → ∀ (w : MV) (h : Int64), zloop (s_X7_digest_62 w (nI a)) 4096 (0, uH U h) = some (nI 7, uH U (pF (fun w h => dH h ((W a).1 w)) 7 0 h)) := fun a ha w h => by
    have q := zlF' (f := s_X7_digest_62 w (nI a)) (fun a (x : Int64) => (nI a, uH U x)) (fun x => (nI 7, uH U x)) (fun w h => dH h ((W a).1 w)) 7
      (fun b x hb => by
        unfold s_X7_digest_62
        show (if 7 ≤ nI b then _ else (f_X7_elementOf (uH U x) (nI a) (nI b)).bind _) = _
        rw [if_neg (show ¬ (7 : Int32) ≤ nI b by show ¬ nI 7 ≤ nI b; rw [nI_leI (by omega) (by omega)]; omega), ((hW a ha).1 b hb).2 x, Option.bind_some]
        show (f_X7_mix (uH U x) ((W a).1 b)).bind _ = _
        rw [mixH, Option.bind_some, nI_1])
      (fun x => by
        unfold s_X7_digest_62
        show (if 7 ≤ nI 7 then _ else _) = _
        rw [if_pos (by decide)]) 7 0 h 4096 (by omega) (by omega)
    exact q
  have l61 : ∀ h : Int64, zloop (s_X6_digest_61 C) 4096 (h, 0) = some (pF (fun a h => dH (dH (pF (fun w h => dH h ((W a).1 w)) 7 0 h) (W a).2) (pB t' a)) n 0 h, nI n) := fun h => by
    have q := zlF' (f := s_X6_digest_61 C) (fun a (x : Int64) => (x, nI a)) (fun x => (x, nI n)) (fun a h => dH (dH (pF (fun w h => dH h ((W a).1 w)) 7 0 h) (W a).2) (pB t' a)) n
      (fun a x ha => by
        unfold s_X6_digest_61
        show (if C.1.1.1 ≤ nI a then _ else (zloop (s_X6_digest_79 C (nI a)) 4096 (x, 0)).bind (fun u8 => (f_X0_latestBegin C.1.1 (nI a)).bind (fun u9 => (f_X0_begunAt C.2.1.1 (nI a)).bind _))) = _
        rw [l79 a ha, hC1, hC2, g1.1.2.1, if_neg (by rw [nI_leI (by omega) (by omega)]; omega), Option.bind_some, (hW a ha).2.1, Option.bind_some, bg0 e4.1 ha, Option.bind_some, nI_1]
        rfl)
      (fun x => by
        unfold s_X6_digest_61
        show (if C.1.1.1 ≤ nI n then _ else _) = _
        rw [hC1, g1.1.2.1, if_pos (Int32.le_refl _)]) n 0 h 4096 (by omega) (by omega)
    exact q
  have l49 : ∀ (w : MV) (h : Int64), zloop (s_X7_digest_49 w) 4096 (0, uH U h) = some (nI n, uH U (pF (fun a h => dH (dH (pF (fun w h => dH h ((W a).1 w)) 7 0 h) (W a).2) (pB t' a)) n 0 h)) := fun w h => by
    have q := zlF' (f := s_X7_digest_49 w) (fun a (x : Int64) => (nI a, uH U x)) (fun x => (nI n, uH U x)) (fun a h => dH (dH (pF (fun w h => dH h ((W a).1 w)) 7 0 h) (W a).2) (pB t' a)) n
      (fun a x ha => by
        have i4 : (10 + (5 * nI a)) + 4 = nI (10 + 5 * a + 4) := x7i (w := 4)
        unfold s_X7_digest_49
        show (if U.1 7 ≤ nI a then _ else (zloop (s_X7_digest_62 (uH U x) (nI a)) 4096 (0, uH U x)).bind (fun u11 => (f_X7_backOf u11.2 (nI a)).bind (fun u12 => (f_X7_mix u11.2 u12).bind (fun u13 => if zin ((10 + (5 * nI a)) + 4) 220 = true then (f_X7_mix u13 (u13.2.2.2.1 ((10 + (5 * nI a)) + 4).toNatClampNeg)).bind _ else _)))) = _
        rw [gU1.1.2.2.1, if_neg (by rw [nI_leI (by omega) (by omega)]; omega), l62 a ha, Option.bind_some, (hW a ha).2.2, Option.bind_some, mixH, Option.bind_some, i4, if_pos (zin_n (by omega) (by omega)), cl_n (by omega)]
        show (f_X7_mix (uH U (dH (pF (fun w h => dH h ((W a).1 w)) 7 0 x) (W a).2)) (U.2.2.2.1 (10 + 5 * a + 4))).bind _ = _
        rw [mixH, Option.bind_some, nI_1, hU4]
        rfl)
      (fun x => by
        unfold s_X7_digest_49
        show (if U.1 7 ≤ nI n then _ else _) = _
        rw [gU1.1.2.2.1, if_pos (Int32.le_refl _)]) n 0 h 4096 (by omega) (by omega)
    exact q
  -- the fillers
  have l178 : ∀ (a : Nat), a < m → ∀ h : Int64, zloop (s_X6_digest_178 C (nI a)) 4096 (h, 0) = some (pF (fun w h => dH h (U.1 (70 + 3 * a + w))) 3 0 h, nI 3) := fun a ha h => by
    have q := zlF' (f := s_X6_digest_178 C (nI a)) (fun a (x : Int64) => (x, nI a)) (fun x => (x, nI 3)) (fun w h => dH h (U.1 (70 + 3 * a + w))) 3
      (fun b x hb => by
        obtain ⟨y, y1, -, y3⟩ := tellF2 (u := U) gU1.2.1 ha (w := b) (by omega)
        unfold s_X6_digest_178
        show (if 2 < nI b then _ else (f_X1_tell C.1.2.1 (nI a) (nI b)).bind _) = _
        rw [if_neg (show ¬ (2 : Int32) < nI b by show ¬ nI 2 < nI b; rw [nI_ltI (by omega) (by omega)]; omega), hC1, y1, Option.bind_some, nI_1, y3]
        rfl)
      (fun x => by
        unfold s_X6_digest_178
        show (if 2 < nI 3 then _ else _) = _
        rw [if_pos (by decide)]) 3 0 h 4096 (by omega) (by omega)
    exact q
  have l160 : ∀ h : Int64, zloop (s_X6_digest_160 C) 4096 (h, 0) = some (pF (fun a h => pF (fun w h => dH h (U.1 (70 + 3 * a + w))) 3 0 h) m 0 h, nI m) := fun h => by
    have q := zlF' (f := s_X6_digest_160 C) (fun a (x : Int64) => (x, nI a)) (fun x => (x, nI m)) (fun a h => pF (fun w h => dH h (U.1 (70 + 3 * a + w))) 3 0 h) m
      (fun a x ha => by
        unfold s_X6_digest_160
        show (if C.1.2.1.1 ≤ nI a then _ else (zloop (s_X6_digest_178 C (nI a)) 4096 (x, 0)).bind _) = _
        rw [l178 a ha, hC1, g1.2.1.2.1, if_neg (by rw [nI_leI (by omega) (by omega)]; omega), Option.bind_some, nI_1])
      (fun x => by
        unfold s_X6_digest_160
        show (if C.1.2.1.1 ≤ nI m then _ else _) = _
        rw [hC1, g1.2.1.2.1, if_pos (Int32.le_refl _)]) m 0 h 4096 (by omega) (by omega)
    exact q
  have l118 : ∀ (w : MV) (h : Int64), zloop (s_X7_digest_118 w) 4096 (0, uH U h) = some (nI (3 * m), uH U (pF (fun q h => dH h (U.1 (70 + q))) (3 * m) 0 h)) := fun w h => by
    have hc : ∀ x : Int64, (3 : Int32) * (uH U x).1 8 = nI (3 * m) := fun x => by
      show (3 : Int32) * U.1 8 = _
      rw [gU1.2.1.2.2.1, show (3 : Int32) = nI 3 from rfl, pk_mul]
    have q := zlF' (f := s_X7_digest_118 w) (fun a (x : Int64) => (nI a, uH U x)) (fun x => (nI (3 * m), uH U x)) (fun q h => dH h (U.1 (70 + q))) (3 * m)
      (fun a x ha => by
        unfold s_X7_digest_118
        show (if (3 : Int32) * (uH U x).1 8 ≤ nI a then _ else (f_X7_ofFiller (uH U x) (nI a / nI 3) (nI a - nI a / nI 3 * nI 3)).bind _) = _
        rw [hc, if_neg (by rw [nI_leI (by omega) (by omega)]; omega), pk_rem (by omega) (by omega) (by omega), pk_div (by omega) (by omega) (by omega), x7ofF (u := uH U x) (i := a / 3) (w := a % 3) (by omega) (Nat.mod_lt _ (by omega)), Option.bind_some]
        show (f_X7_mix (uH U x) (U.1 (70 + 3 * (a / 3) + a % 3))).bind _ = _
        rw [mixH, Option.bind_some, nI_1, show 70 + 3 * (a / 3) + a % 3 = 70 + a by omega])
      (fun x => by
        unfold s_X7_digest_118
        show (if (3 : Int32) * (uH U x).1 8 ≤ nI (3 * m) then _ else _) = _
        rw [hc, if_pos (Int32.le_refl _)]) (3 * m) 0 h 4096 (by omega) (by omega)
    exact q
  have lF : ∀ h : Int64, pF (fun q h => dH h (U.1 (70 + q))) (3 * m) 0 h = pF (fun a h => pF (fun w h => dH h (U.1 (70 + 3 * a + w))) 3 0 h) m 0 h := fun h => pF_three (fun q h => dH h (U.1 (70 + q))) m 0 h
  -- the log
  have l239 : ∀ (a : Nat), a < k → ∀ h : Int64, zloop (s_X6_digest_239 C (nI a)) 4096 (h, 0) = some (pF (fun w h => dH h (U.1 (100 + 3 * a + w))) 3 0 h, nI 3) := fun a ha h => by
    have q := zlF' (f := s_X6_digest_239 C (nI a)) (fun a (x : Int64) => (x, nI a)) (fun x => (x, nI 3)) (fun w h => dH h (U.1 (100 + 3 * a + w))) 3
      (fun b x hb => by
        unfold s_X6_digest_239
        show (if 2 < nI b then _ else (f_X3_tell C.1.2.2.1 (nI a) (nI b)).bind _) = _
        rw [if_neg (show ¬ (2 : Int32) < nI b by show ¬ nI 2 < nI b; rw [nI_ltI (by omega) (by omega)]; omega), hC1, tellL gU2 ha (w := b) (by omega), Option.bind_some, nI_1]
        rfl)
      (fun x => by
        unfold s_X6_digest_239
        show (if 2 < nI 3 then _ else _) = _
        rw [if_pos (by decide)]) 3 0 h 4096 (by omega) (by omega)
    exact q
  have l221 : ∀ h : Int64, zloop (s_X6_digest_221 C) 4096 (h, 0) = some (pF (fun a h => pF (fun w h => dH h (U.1 (100 + 3 * a + w))) 3 0 h) k 0 h, nI k) := fun h => by
    have q := zlF' (f := s_X6_digest_221 C) (fun a (x : Int64) => (x, nI a)) (fun x => (x, nI k)) (fun a h => pF (fun w h => dH h (U.1 (100 + 3 * a + w))) 3 0 h) k
      (fun a x ha => by
        unfold s_X6_digest_221
        show (if C.1.2.2.1.1 ≤ nI a then _ else (zloop (s_X6_digest_239 C (nI a)) 4096 (x, 0)).bind _) = _
        rw [l239 a ha, hC1, g2.2.1, if_neg (by rw [nI_leI (by omega) (by omega)]; omega), Option.bind_some, nI_1])
      (fun x => by
        unfold s_X6_digest_221
        show (if C.1.2.2.1.1 ≤ nI k then _ else _) = _
        rw [hC1, g2.2.1, if_pos (Int32.le_refl _)]) k 0 h 4096 (by omega) (by omega)
    exact q
  have l153 : ∀ (w : MV) (h : Int64), zloop (s_X7_digest_153 w) 4096 (0, uH U h) = some (nI (3 * k), uH U (pF (fun q h => dH h (U.1 (100 + q))) (3 * k) 0 h)) := fun w h => by
    have hc : ∀ x : Int64, (3 : Int32) * (uH U x).1 9 = nI (3 * k) := fun x => by
      show (3 : Int32) * U.1 9 = _
      rw [gU2.2.2.1, show (3 : Int32) = nI 3 from rfl, pk_mul]
    have q := zlF' (f := s_X7_digest_153 w) (fun a (x : Int64) => (nI a, uH U x)) (fun x => (nI (3 * k), uH U x)) (fun q h => dH h (U.1 (100 + q))) (3 * k)
      (fun a x ha => by
        have hix : (100 : Int32) + nI a = nI (100 + a) := nI_add 100 a
        unfold s_X7_digest_153
        show (if (3 : Int32) * (uH U x).1 9 ≤ nI a then _ else if zin ((100 : Int32) + nI a) 220 = true then (f_X7_mix (uH U x) (U.1 ((100 : Int32) + nI a).toNatClampNeg)).bind _ else _) = _
        rw [hc, if_neg (by rw [nI_leI (by omega) (by omega)]; omega), hix, if_pos (zin_n (by omega) (by omega)), cl_n (by omega), mixH, Option.bind_some, nI_1])
      (fun x => by
        unfold s_X7_digest_153
        show (if (3 : Int32) * (uH U x).1 9 ≤ nI (3 * k) then _ else _) = _
        rw [hc, if_pos (Int32.le_refl _)]) (3 * k) 0 h 4096 (by omega) (by omega)
    exact q
  have lL : ∀ h : Int64, pF (fun q h => dH h (U.1 (100 + q))) (3 * k) 0 h = pF (fun a h => pF (fun w h => dH h (U.1 (100 + 3 * a + w))) 3 0 h) k 0 h := fun h => pF_three (fun q h => dH h (U.1 (100 + q))) k 0 h
  -- all of it
  obtain ⟨x1, hx1⟩ : ∃ x1 : Int64, x1 = pF (fun w h => dH h (V w)) 14 0 (dH 3559 (nI tk)) := ⟨_, rfl⟩
  obtain ⟨x2, hx2⟩ : ∃ x2 : Int64, x2 = pF (fun a h => dH (dH (pF (fun w h => dH h ((W a).1 w)) 7 0 h) (W a).2) (pB t' a)) n 0 x1 := ⟨_, rfl⟩
  obtain ⟨x3, hx3⟩ : ∃ x3 : Int64, x3 = pF (fun a h => pF (fun w h => dH h (U.1 (70 + 3 * a + w))) 3 0 h) m 0 x2 := ⟨_, rfl⟩
  obtain ⟨x4, hx4⟩ : ∃ x4 : Int64, x4 = pF (fun a h => pF (fun w h => dH h (U.1 (100 + 3 * a + w))) 3 0 h) k 0 x3 := ⟨_, rfl⟩
  have hR1 : U.2.2.2.2.1 = nI cn := by rw [hU, hRr]; exact cn3
  have hR3 : U.2.2.2.2.2.2.1 = nI tk := by rw [hU, hRr]; exact tk3
  refine ⟨dH (dH x4 (t' 0)) (nI cn), C, uH U (dH (dH x4 (t' 0)) (nI cn)), ?_, ?_, ?_⟩
  · unfold f_X6_digest
    rw [e1, Option.bind_some, ← hC]
    have ht : C.2.2.2.2.2.1 = nI tk := by rw [hC]; exact tk2
    have hs : C.2.2.2.1 = nI cn := by rw [hC]; exact cn2
    have hsec : C.2.1.2.2.2.1 = t' 0 := by rw [hC]; exact e4.2.2.1
    rw [ht, hs, hsec]
    show (zloop (s_X6_digest_28 C) 4096 (dH 3559 (nI tk), 0)).bind _ = _
    rw [l28, Option.bind_some, ← hx1]
    show (zloop (s_X6_digest_61 C) 4096 (x1, 0)).bind _ = _
    rw [l61, Option.bind_some, ← hx2]
    show (zloop (s_X6_digest_160 C) 4096 (x2, 0)).bind _ = _
    rw [l160, Option.bind_some, ← hx3]
    show (zloop (s_X6_digest_221 C) 4096 (x3, 0)).bind _ = _
    rw [l221, Option.bind_some, ← hx4]
    rfl
  · unfold f_X7_digest
    have e2' : f_X7_foresees (u.1, u.2.1, u.2.2.1, u.2.2.2.1, u.2.2.2.2.1, u.2.2.2.2.2.1, u.2.2.2.2.2.2.1, 0, u.2.2.2.2.2.2.2.2.1, u.2.2.2.2.2.2.2.2.2.1, u.2.2.2.2.2.2.2.2.2.2) = some U := by
      rw [hU]
      rw [hRr] at e2 ⊢
      exact e2
    rw [e2', Option.bind_some]
    show (f_X7_mix (uH U 3559) U.2.2.2.2.2.2.1).bind _ = _
    rw [hR3, mixH, Option.bind_some, l26, Option.bind_some, ← hx1]
    show (zloop (s_X7_digest_49 (uH U x1)) 4096 (0, uH U x1)).bind _ = _
    rw [l49, Option.bind_some, ← hx2]
    show (zloop (s_X7_digest_118 (uH U x2)) 4096 (0, uH U x2)).bind _ = _
    rw [l118, Option.bind_some, lF, ← hx3]
    show (zloop (s_X7_digest_153 (uH U x3)) 4096 (0, uH U x3)).bind _ = _
    rw [l153, Option.bind_some, lL, ← hx4]
    show (f_X7_mix (uH U x4) (U.2.2.2.1 0)).bind _ = _
    rw [hU4, mixH, Option.bind_some]
    show (f_X7_mix (uH U (dH x4 (t' 0))) U.2.2.2.2.1).bind _ = _
    rw [hR1, mixH, Option.bind_some]
    rfl
  · rw [hC, hU, hRr]
    exact ⟨HR_cg hH0 e3, hS, hT⟩
