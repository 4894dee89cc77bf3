/-! The pure part: how the answers agree. -/
theorem in7t {p a b : Int32} (h1 : ¬ p < a) (h2 : ¬ b < p) : f_X7_in p a b = some true := by
  unfold f_X7_in
  rw [if_neg h1, if_neg h2]
theorem in7f {p a b : Int32} (h : p < a ∨ b < p) : f_X7_in p a b = some false := by
  unfold f_X7_in
  by_cases h1 : p < a
  · rw [if_pos h1]
  · rw [if_neg h1, if_pos (h.resolve_left h1)]
/-- the reference with another word for what it threw -/
def uT (u : MV) (k : Int32) : MV := (u.1, u.2.1, u.2.2.1, u.2.2.2.1, u.2.2.2.2.1, u.2.2.2.2.2.1, u.2.2.2.2.2.2.1, k, u.2.2.2.2.2.2.2.2.1, u.2.2.2.2.2.2.2.2.2.1, u.2.2.2.2.2.2.2.2.2.2)
theorem agL_t {v : CV} {u : MV} {k : Int32} {F : FJ} {x : Option (Int32 × CV × FJ)} {y : Option (Int32 × MV)} (hR : Rel v u) (hk : k ≠ 0) (hx : x = some (k, v, F)) (hy : y = some (0, uT u k)) : zAgL Rel x y :=
  ⟨k, v, F, 0, uT u k, hx, hy, rfl, fun q => absurd q hk, hR⟩
theorem agL_o {v : CV} {u : MV} {b : Int32} {F : FJ} {x : Option (Int32 × CV × FJ)} {y : Option (Int32 × MV)} (hR : Rel v u) (hu : zThr u = 0) (hx : x = some (0, v, vp_updL F 0 (Int32.toInt64 b))) (hy : y = some (b, u)) : zAgL Rel x y :=
  ⟨0, v, vp_updL F 0 (Int32.toInt64 b), b, u, hx, hy, hu, fun _ => if_pos rfl, hR⟩
theorem zb1 : ¬ zb true = 0 := by decide
theorem zb0 : zb false = 0 := by decide
/-- the hour of the class and its row, with their numbers -/
theorem ov2 {h : HV} {s : FF} {n m k : Nat} (h0 : HR0 h s n m) (hin : pIn s n m k) : (zb h.2.2.2.2.1 = 0 ∧ s 1 = 0 ∧ ¬ s 1 = 1) ∨ (¬ zb h.2.2.2.2.1 = 0 ∧ ¬ s 1 = 0 ∧ s 1 = 1) := by
  have h4 := h0.2.2.2.1
  rcases hin.2.2.1 with q | q
  · refine Or.inl ⟨h4.trans q, q, ?_⟩
    rw [q]; decide
  · refine Or.inr ⟨?_, ?_, q⟩
    · rw [h4, q]; decide
    · rw [q]; decide
theorem A_addElement : zA_addElement Rel := by
  intro v u hR p1 p2 p3 F
  have hR0 := hR
  obtain ⟨⟨n, m, k, g1, g2, g3⟩, -, hT⟩ := hR
  obtain ⟨q', P', c', w1, w2, w3⟩ := sav2 hR0
  have hn := g1.1.1
  have hno : ∀ (z : f_X7_addElement u p1 p2 p3 = some (0, uT u 1)) (y : f_X6_addElement v p1 p2 p3 = some (.inl 1)), zAgL Rel (f_L_addElement v p1 p2 p3 F) (f_X7_addElement u p1 p2 p3) := fun z y => agL_t hR0 (by decide) (by unfold f_L_addElement; rw [y]; rfl) z
  by_cases a1 : p1 < 1
  · refine hno ?_ ?_
    · unfold f_X7_addElement
      rw [in7f (Or.inl a1), Option.bind_some, if_pos zb0]
      rfl
    · unfold f_X6_addElement
      rw [if_pos a1]
  by_cases a2 : p1 ≤ 1800
  rotate_left
  · refine hno ?_ ?_
    · unfold f_X7_addElement
      rw [in7f (Or.inr (Int32.not_le.mp a2)), Option.bind_some, if_pos zb0]
      rfl
    · unfold f_X6_addElement
      rw [if_neg a1, if_neg a2]
  have a12 : f_X7_in p1 1 1800 = some true := in7t a1 (Int32.not_lt.mpr a2)
  by_cases a3 : p2 = -1 ∨ (¬ p2 < 0 ∧ p2 < 3600)
  rotate_left
  · refine hno ?_ ?_
    · unfold f_X7_addElement
      rw [a12, Option.bind_some, if_neg zb1, in7f (by
        by_cases a4 : p2 < 0
        · left
          have a5 : ¬ p2 = -1 := fun q => a3 (Or.inl q)
          rw [Int32.lt_iff_toInt_lt, show (0 : Int32).toInt = 0 from rfl] at a4
          rw [Int32.lt_iff_toInt_lt, show (-1 : Int32).toInt = -1 from rfl]
          have a6 : p2.toInt ≠ -1 := fun q => a5 (Int32.toInt_inj.mp q)
          omega
        · right
          have a5 : ¬ p2 < 3600 := fun q => a3 (Or.inr ⟨a4, q⟩)
          have a5' : ¬ p2 < nI 3600 := a5
          rw [Int32.lt_iff_toInt_lt, nI_toInt (by omega)] at a5'
          show nI 3599 < p2
          rw [Int32.lt_iff_toInt_lt, nI_toInt (by omega)]
          omega), Option.bind_some, if_pos zb0]
      rfl
    · unfold f_X6_addElement
      rw [if_neg a1, if_pos a2, if_neg (fun q => a3 (Or.inl q))]
      by_cases a4 : p2 < 0
      · rw [if_pos a4]
      · rw [if_neg a4, if_neg (fun q => a3 (Or.inr ⟨a4, q⟩))]
  have hp2 : p2 = -1 ∨ ∃ t : Nat, t ≤ 3599 ∧ p2 = nI t := by
    rcases a3 with q | ⟨q1, q2⟩
    · exact Or.inl q
    · obtain ⟨t, t1, t2⟩ := nI_of q1
      have q2' : p2 < nI 3600 := q2
      rw [t2, nI_ltI t1 (by omega)] at q2'
      exact Or.inr ⟨t, by omega, t2⟩
  have a34 : f_X7_in p2 (-1) 3599 = some true := by
    refine in7t ?_ ?_
    · rw [Int32.lt_iff_toInt_lt, show (-1 : Int32).toInt = -1 from rfl]
      rcases hp2 with q | ⟨t, t1, t2⟩
      · rw [q, show (-1 : Int32).toInt = -1 from rfl]; omega
      · rw [t2, nI_toInt (by omega)]; omega
    · show ¬ nI 3599 < p2
      rw [Int32.lt_iff_toInt_lt, nI_toInt (by omega)]
      rcases hp2 with q | ⟨t, t1, t2⟩
      · rw [q, show (-1 : Int32).toInt = -1 from rfl]; omega
      · rw [t2, nI_toInt (by omega)]; omega
  -- the tail, once for floating ones and for fixed ones
  obtain ⟨tl, htl⟩ : ∃ tl : Option (Nat ⊕ (Int32 × CV)), tl = (if p3 < 0 then some (.inl 1) else if p3 ≤ 9 then if (zb v.1.2.2.2.2.1) = 0 then if v.1.1.1 < 12 then (f_X6_save v).bind (fun u8 => (f_X0_add u8.1.1 p1 p2 p3).bind (fun u9 => some (.inr ((u9.1 - 1), ((u9, u8.1.2.1, u8.1.2.2.1, u8.1.2.2.2.1, u8.1.2.2.2.2.1, u8.1.2.2.2.2.2.1, u8.1.2.2.2.2.2.2.1, u8.1.2.2.2.2.2.2.2.1, u8.1.2.2.2.2.2.2.2.2.1, u8.1.2.2.2.2.2.2.2.2.2.1, u8.1.2.2.2.2.2.2.2.2.2.2), u8.2.1, u8.2.2.1, u8.2.2.2.1, u8.2.2.2.2))))) else some (.inl 2) else some (.inl 2) else some (.inl 1)) := ⟨_, rfl⟩
  have hcl : f_X6_addElement v p1 p2 p3 = tl := by
    unfold f_X6_addElement
    rw [if_neg a1, if_pos a2, htl]
    by_cases a4 : p2 = -1
    · rw [if_pos a4]
    · rw [if_neg a4]
      rcases a3 with q | ⟨q1, q2⟩
      · exact absurd q a4
      · rw [if_neg q1, if_pos q2]
  by_cases a5 : p3 < 0
  · refine hno ?_ ?_
    · unfold f_X7_addElement
      rw [a12, Option.bind_some, if_neg zb1, a34, Option.bind_some, if_neg zb1, in7f (Or.inl a5), Option.bind_some, if_pos zb0]
      rfl
    · rw [hcl, htl, if_pos a5]
  by_cases a6 : p3 ≤ 9
  rotate_left
  · refine hno ?_ ?_
    · unfold f_X7_addElement
      rw [a12, Option.bind_some, if_neg zb1, a34, Option.bind_some, if_neg zb1, in7f (Or.inr (Int32.not_le.mp a6)), Option.bind_some, if_pos zb0]
      rfl
    · rw [hcl, htl, if_neg a5, if_neg a6]
  have a56 : f_X7_in p3 0 9 = some true := in7t a5 (Int32.not_lt.mpr a6)
  have hno2 : ∀ (z : f_X7_addElement u p1 p2 p3 = some (0, uT u 2)) (y : f_X6_addElement v p1 p2 p3 = some (.inl 2)), zAgL Rel (f_L_addElement v p1 p2 p3 F) (f_X7_addElement u p1 p2 p3) := fun z y => agL_t hR0 (by decide) (by unfold f_L_addElement; rw [y]; rfl) z
  have h7 : u.1 7 = nI n := g1.1.2.2.1
  have hcn : v.1.1.1 = nI n := g1.1.2.1
  have h12 : (u.1 7 = 12) = (n = 12) := by
    rw [h7]
    apply propext
    show nI n = nI 12 ↔ _
    exact nI_eq (by omega) (by omega)
  have h12' : (v.1.1.1 < 12) = (n < 12) := by
    rw [hcn]
    exact lt_n (b := 12) (by omega) (by omega)
  rcases ov2 g1 g3 with ⟨o1, o2, o3⟩ | ⟨o1, o2, o3⟩
  · by_cases a7 : n < 12
    · obtain ⟨e', s', k1, k2, k3, k4, k5, k6, k7, -⟩ := ade2 (u := (u.1, P', u.2.2.1, u.2.2.2.1, nI c', u.2.2.2.2.2.1, u.2.2.2.2.2.2.1, 0, u.2.2.2.2.2.2.2.2)) (l := p1) (t := p2) (r := p3) g1 (LB_t g2) g3 a7 (by
        have a2' : p1 ≤ nI 1800 := a2
        have a1' : ¬ p1 < nI 1 := a1
        obtain ⟨l, l1, l2⟩ := nI_of (x := p1) (by
          show ¬ p1 < nI 0
          rw [Int32.lt_iff_toInt_lt, nI_toInt (by omega)] at a1' ⊢
          omega)
        rw [l2, nI_ltI l1 (by omega)] at a1'
        rw [l2, nI_leI l1 (by omega)] at a2'
        exact ⟨l, by omega, by omega, l2⟩) hp2
      refine agL_o (F := F) (v := ((e', v.1.2), v.2.1, q', nI c', v.2.2.2.2)) (u := (s', (P', u.2.2.1, u.2.2.2.1, nI c', u.2.2.2.2.2.1, u.2.2.2.2.2.2.1, 0, u.2.2.2.2.2.2.2.2))) (b := nI (n + 1) - 1) ⟨⟨n + 1, m, k, k5, k6.2.2.2 trivial, k7⟩, w3, hT⟩ rfl ?_ ?_
      · unfold f_L_addElement
        rw [hcl, htl, if_neg a5, if_pos a6, if_pos o1, if_pos (by rw [h12']; exact a7), w1, Option.bind_some, k1, Option.bind_some, k3]
        rfl
      · unfold f_X7_addElement
        rw [a12, Option.bind_some, if_neg zb1, a34, Option.bind_some, if_neg zb1, a56, Option.bind_some, if_neg zb1, if_neg (by rw [h12]; omega), if_neg o3, w2, Option.bind_some, k2, Option.bind_some]
        show some (s' 7 - 1, _) = some (nI (n + 1) - 1, _)
        rw [k4]
    · refine hno2 ?_ ?_
      · unfold f_X7_addElement
        rw [a12, Option.bind_some, if_neg zb1, a34, Option.bind_some, if_neg zb1, a56, Option.bind_some, if_neg zb1, if_pos (by rw [h12]; omega)]
        rfl
      · rw [hcl, htl, if_neg a5, if_pos a6, if_pos o1, if_neg (by rw [h12']; exact a7)]
  · refine hno2 ?_ ?_
    · unfold f_X7_addElement
      rw [a12, Option.bind_some, if_neg zb1, a34, Option.bind_some, if_neg zb1, a56, Option.bind_some, if_neg zb1]
      by_cases a7 : n = 12
      · rw [if_pos (by rw [h12]; exact a7)]
        rfl
      · rw [if_neg (by rw [h12]; exact a7), if_pos o3]
        rfl
    · rw [hcl, htl, if_neg a5, if_pos a6, if_neg o1]
theorem A_addFiller : zA_addFiller Rel := by
  intro v u hR p1 F
  have hR0 := hR
  obtain ⟨⟨n, m, k, g1, g2, g3⟩, -, hT⟩ := hR
  obtain ⟨q', P', c', w1, w2, w3⟩ := sav2 hR0
  have hm := g1.2.1.1
  have hno : ∀ (z : f_X7_addFiller u p1 = some (0, uT u 1)) (y : f_X6_addFiller v p1 = some (.inl 1)), zAgL Rel (f_L_addFiller v p1 F) (f_X7_addFiller u p1) := fun z y => agL_t hR0 (by decide) (by unfold f_L_addFiller; rw [y]; rfl) z
  have hno2 : ∀ (z : f_X7_addFiller u p1 = some (0, uT u 2)) (y : f_X6_addFiller v p1 = some (.inl 2)), zAgL Rel (f_L_addFiller v p1 F) (f_X7_addFiller u p1) := fun z y => agL_t hR0 (by decide) (by unfold f_L_addFiller; rw [y]; rfl) z
  by_cases a1 : p1 < 1
  · refine hno ?_ ?_
    · unfold f_X7_addFiller
      rw [in7f (Or.inl a1), Option.bind_some, if_pos zb0]
      rfl
    · unfold f_X6_addFiller
      rw [if_pos a1]
  by_cases a2 : p1 ≤ 900
  rotate_left
  · refine hno ?_ ?_
    · unfold f_X7_addFiller
      rw [in7f (Or.inr (Int32.not_le.mp a2)), Option.bind_some, if_pos zb0]
      rfl
    · unfold f_X6_addFiller
      rw [if_neg a1, if_neg a2]
  have a12 : f_X7_in p1 1 900 = some true := in7t a1 (Int32.not_lt.mpr a2)
  have h8 : u.1 8 = nI m := g1.2.1.2.2.1
  have hcm : v.1.2.1.1 = nI m := g1.2.1.2.1
  have h10 : (u.1 8 = 10) = (m = 10) := by
    rw [h8]
    apply propext
    show nI m = nI 10 ↔ _
    exact nI_eq (by omega) (by omega)
  have h10' : (v.1.2.1.1 < 10) = (m < 10) := by
    rw [hcm]
    exact lt_n (b := 10) (by omega) (by omega)
  rcases ov2 g1 g3 with ⟨o1, o2, o3⟩ | ⟨o1, o2, o3⟩
  · by_cases a7 : m < 10
    · obtain ⟨f', s', k1, k2, k3, k4, k5, k6, k7, -⟩ := adf2 (u := (u.1, P', u.2.2.1, u.2.2.2.1, nI c', u.2.2.2.2.2.1, u.2.2.2.2.2.2.1, 0, u.2.2.2.2.2.2.2.2)) (l := p1) g1 (LB_t g2) g3 a7 (by
        have a2' : p1 ≤ nI 900 := a2
        have a1' : ¬ p1 < nI 1 := a1
        obtain ⟨l, l1, l2⟩ := nI_of (x := p1) (by
          show ¬ p1 < nI 0
          rw [Int32.lt_iff_toInt_lt, nI_toInt (by omega)] at a1' ⊢
          omega)
        rw [l2, nI_ltI l1 (by omega)] at a1'
        rw [l2, nI_leI l1 (by omega)] at a2'
        exact ⟨l, by omega, by omega, l2⟩)
      refine agL_o (F := F) (v := ((v.1.1, f', v.1.2.2), v.2.1, q', nI c', v.2.2.2.2)) (u := (s', (P', u.2.2.1, u.2.2.2.1, nI c', u.2.2.2.2.2.1, u.2.2.2.2.2.2.1, 0, u.2.2.2.2.2.2.2.2))) (b := nI (m + 1) - 1) ⟨⟨n, m + 1, k, k5, k6.2.2.2 trivial, k7⟩, w3, hT⟩ rfl ?_ ?_
      · unfold f_L_addFiller f_X6_addFiller
        rw [if_neg a1, if_pos a2, if_pos o1, if_pos (by rw [h10']; exact a7), w1, Option.bind_some, k1, Option.bind_some, k3]
        rfl
      · unfold f_X7_addFiller
        rw [a12, Option.bind_some, if_neg zb1, if_neg (by rw [h10]; omega), if_neg o3, w2, Option.bind_some, k2, Option.bind_some]
        show some (s' 8 - 1, _) = some (nI (m + 1) - 1, _)
        rw [k4]
    · refine hno2 ?_ ?_
      · unfold f_X7_addFiller
        rw [a12, Option.bind_some, if_neg zb1, if_pos (by rw [h10]; omega)]
        rfl
      · unfold f_X6_addFiller
        rw [if_neg a1, if_pos a2, if_pos o1, if_neg (by rw [h10']; exact a7)]
  · refine hno2 ?_ ?_
    · unfold f_X7_addFiller
      rw [a12, Option.bind_some, if_neg zb1]
      by_cases a7 : m = 10
      · rw [if_pos (by rw [h10]; exact a7)]
        rfl
      · rw [if_neg (by rw [h10]; exact a7), if_pos o3]
        rfl
    · unfold f_X6_addFiller
      rw [if_neg a1, if_pos a2, if_neg o1]
