/-! The pure part: what is saved. -/
abbrev QV : Type := (Nat → Nat) × HV × HV × HV × HV
def qSel (q : QV) (i : Nat) : HV := if i = 0 then q.2.1 else if i = 1 then q.2.2.1 else if i = 2 then q.2.2.2.1 else q.2.2.2.2
/-- the saved hours and the saved rows -/
def RS (q : QV) (c : Int32) (past : FF) (c' : Int32) : Prop := ∃ cn : Nat, cn ≤ 4 ∧ c = nI cn ∧ c' = nI cn ∧ (∀ j : Nat, j < 4 → q.1 j < 4) ∧ (∀ i j : Nat, i < 4 → j < 4 → q.1 i = q.1 j → i = j) ∧ ∀ j : Nat, j < cn → HR (qSel q (q.1 j)) (fun i => past (220 * j + i))
/-- the texts -/
def RT (t : TV) (text : FF) (typed : Int32) : Prop := ∃ k : Nat, k ≤ 100 ∧ t.2.1 = nI k ∧ typed = nI k ∧ ∀ i : Nat, i < k → t.1 i = text i
def Rel (v : CV) (u : MV) : Prop := HR v.1 u.1 ∧ RS v.2.2.1 v.2.2.2.1 u.2.1 u.2.2.2.2.1 ∧ RT v.2.2.2.2 u.2.2.2.2.2.1 u.2.2.2.2.2.2.1
def r6put (v : CV) : Option CV :=
    if zin v.2.2.2.1 4 = true then
    if (v.2.2.1.1 v.2.2.2.1.toNatClampNeg) = 0 then
      (f_X2_copyFrom v.2.2.1.2.1 v.1).bind (fun u3 =>
      some (v.1, v.2.1, (v.2.2.1.1, u3, v.2.2.1.2.2.1, v.2.2.1.2.2.2.1, v.2.2.1.2.2.2.2), (v.2.2.2.1 + 1), v.2.2.2.2))
    else
      if (v.2.2.1.1 v.2.2.2.1.toNatClampNeg) = 1 then
        (f_X2_copyFrom v.2.2.1.2.2.1 v.1).bind (fun u4 =>
        some (v.1, v.2.1, (v.2.2.1.1, v.2.2.1.2.1, u4, v.2.2.1.2.2.2.1, v.2.2.1.2.2.2.2), (v.2.2.2.1 + 1), v.2.2.2.2))
      else
        if (v.2.2.1.1 v.2.2.2.1.toNatClampNeg) = 2 then
          (f_X2_copyFrom v.2.2.1.2.2.2.1 v.1).bind (fun u5 =>
          some (v.1, v.2.1, (v.2.2.1.1, v.2.2.1.2.1, v.2.2.1.2.2.1, u5, v.2.2.1.2.2.2.2), (v.2.2.2.1 + 1), v.2.2.2.2))
        else
          if (v.2.2.1.1 v.2.2.2.1.toNatClampNeg) = 3 then
            (f_X2_copyFrom v.2.2.1.2.2.2.2 v.1).bind (fun u6 =>
            some (v.1, v.2.1, (v.2.2.1.1, v.2.2.1.2.1, v.2.2.1.2.2.1, v.2.2.1.2.2.2.1, u6), (v.2.2.2.1 + 1), v.2.2.2.2))
          else
            none
    else none
theorem r6save (v : CV) : f_X6_save v = if v.2.2.2.1 < 4 then r6put v else (f_X6_forgetOldest v).bind r6put := rfl
theorem put6 {v : CV} {cn : Nat} (hc : v.2.2.2.1 = nI cn) (hcn : cn < 4) (hp : v.2.2.1.1 cn < 4) : ∃ q' : QV, r6put v = some (v.1, v.2.1, q', nI (cn + 1), v.2.2.2.2) ∧ q'.1 = v.2.2.1.1 ∧ HE v.1 (qSel q' (v.2.2.1.1 cn)) ∧ ∀ i : Nat, i < 4 → i ≠ v.2.2.1.1 cn → qSel q' i = qSel v.2.2.1 i := by
  have hz : zin (nI cn) 4 = true := zin_n hcn (by omega)
  have hcl : (nI cn).toNatClampNeg = cn := cl_n (by omega)
  unfold r6put
  rw [hc, if_pos hz, hcl, nI_1]
  obtain ⟨i, hi⟩ : ∃ i : Nat, v.2.2.1.1 cn = i := ⟨_, rfl⟩
  rw [hi] at hp ⊢
  rcases (by omega : i = 0 ∨ i = 1 ∨ i = 2 ∨ i = 3) with rfl | rfl | rfl | rfl
  · obtain ⟨r, h1, h2⟩ := cpy2 v.2.2.1.2.1 v.1
    rw [if_pos rfl, h1]
    refine ⟨(v.2.2.1.1, r, v.2.2.1.2.2.1, v.2.2.1.2.2.2.1, v.2.2.1.2.2.2.2), rfl, rfl, h2, fun j hj hji => ?_⟩
    rcases (by omega : j = 1 ∨ j = 2 ∨ j = 3) with rfl | rfl | rfl <;> rfl
  · obtain ⟨r, h1, h2⟩ := cpy2 v.2.2.1.2.2.1 v.1
    rw [if_neg (by decide), if_pos rfl, h1]
    refine ⟨(v.2.2.1.1, v.2.2.1.2.1, r, v.2.2.1.2.2.2.1, v.2.2.1.2.2.2.2), rfl, rfl, h2, fun j hj hji => ?_⟩
    rcases (by omega : j = 0 ∨ j = 2 ∨ j = 3) with rfl | rfl | rfl <;> rfl
  · obtain ⟨r, h1, h2⟩ := cpy2 v.2.2.1.2.2.2.1 v.1
    rw [if_neg (by decide), if_neg (by decide), if_pos rfl, h1]
    refine ⟨(v.2.2.1.1, v.2.2.1.2.1, v.2.2.1.2.2.1, r, v.2.2.1.2.2.2.2), rfl, rfl, h2, fun j hj hji => ?_⟩
    rcases (by omega : j = 0 ∨ j = 1 ∨ j = 3) with rfl | rfl | rfl <;> rfl
  · obtain ⟨r, h1, h2⟩ := cpy2 v.2.2.1.2.2.2.2 v.1
    rw [if_neg (by decide), if_neg (by decide), if_neg (by decide), if_pos rfl, h1]
    refine ⟨(v.2.2.1.1, v.2.2.1.2.1, v.2.2.1.2.2.1, v.2.2.1.2.2.2.1, r), rfl, rfl, h2, fun j hj hji => ?_⟩
    rcases (by omega : j = 0 ∨ j = 1 ∨ j = 2) with rfl | rfl | rfl <;> rfl
theorem sv56 {u : MV} {cn : Nat} (hc : u.2.2.2.2.1 = nI cn) (hcn : cn < 4) (G : FF) : ∃ P' : FF, zloop (s_X7_save_56 u) 4096 (0, G) = some (nI 220, P') ∧ (∀ a : Nat, a < 220 → P' (220 * cn + a) = u.1 a) ∧ ∀ i : Nat, (i < 220 * cn ∨ 220 * cn + 220 ≤ i) → P' i = G i := by
  have hix : ∀ a : Nat, (220 : Int32) * nI cn + nI a = nI (220 * cn + a) := fun a => by
    rw [show (220 : Int32) = nI 220 from rfl, pk_mul, nI_add]
  have h1 := zlF' (f := s_X7_save_56 u) (fun a (x : FF) => (nI a, x)) (fun x => (nI 220, x)) (fun a x => upd x (220 * cn + a) (u.1 a)) 220
    (fun a x ha => by
      have h220 : ((220 : Int32) ≤ nI a) = (220 ≤ a) := le_n (a := 220) (by omega) (by omega)
      unfold s_X7_save_56
      simp only [h220, hc, hix]
      rw [if_neg (by omega), if_pos (zin_n ha (by omega)), if_pos (zin_n (by omega) (by omega)), cl_n (by omega), cl_n (by omega), nI_1])
    (fun x => by simp [s_X7_save_56, show (220 : Int32) ≤ nI 220 by decide]) 220 0 G 4096 (by omega) (by omega)
  have h2 : zloop (s_X7_save_56 u) 4096 (0, G) = some (nI 220, pF (fun a x => upd x (220 * cn + a) (u.1 a)) 220 0 G) := h1
  exact ⟨_, h2, (cpg (220 * cn) u.1 220 G).1, (cpg (220 * cn) u.1 220 G).2⟩
theorem sv15 (u : MV) (G : FF) : ∃ P' : FF, zloop (s_X7_save_15 u) 4096 (0, G) = some (nI 660, P') ∧ ∀ j : Nat, j < 660 → P' j = G (j + 220) := by
  have hix : ∀ a : Nat, nI a + (220 : Int32) = nI (a + 220) := fun a => nI_add a 220
  have h1 := zlF' (f := s_X7_save_15 u) (fun a (x : FF) => (nI a, x)) (fun x => (nI 660, x)) (fun a x => upd x a (x (a + 220))) 660
    (fun a x ha => by
      have h660 : ((660 : Int32) ≤ nI a) = (660 ≤ a) := le_n (a := 660) (by omega) (by omega)
      unfold s_X7_save_15
      simp only [h660, hix]
      rw [if_neg (by omega), if_pos (zin_n (by omega) (by omega)), if_pos (zin_n (by omega) (by omega)), cl_n (by omega), cl_n (by omega), nI_1])
    (fun x => by simp [s_X7_save_15, show (660 : Int32) ≤ nI 660 by decide]) 660 0 G 4096 (by omega) (by omega)
  have h2 : zloop (s_X7_save_15 u) 4096 (0, G) = some (nI 660, pF (fun a x => upd x a (x (a + 220))) 660 0 G) := h1
  have h3 := pF_ind (G := fun a (x : FF) => upd x a (x (a + 220))) (fun a (x : FF) => (∀ j : Nat, j < a → x j = G (j + 220)) ∧ ∀ j : Nat, a ≤ j → x j = G j) 660 0 G ⟨fun j hj => absurd hj (Nat.not_lt_zero _), fun j _ => rfl⟩ (fun a x q1 q2 q3 => ⟨fun j hj => by
    show upd x a (x (a + 220)) j = G (j + 220)
    by_cases hja : j = a
    · subst hja; rw [pk_us]; exact q3.2 _ (by omega)
    · rw [pk_un hja]; exact q3.1 j (by omega), fun j hj => by
    show upd x a (x (a + 220)) j = G j
    rw [pk_un (by omega)]; exact q3.2 j (by omega)⟩)
  exact ⟨_, h2, h3.1⟩
/-- the slots, once the oldest has gone to the end -/
def pRot (p : Nat → Nat) : Nat → Nat := fun j => if j = 3 then p 0 else (fun j => if j = 2 then p 3 else (fun j => if j = 1 then p 2 else (fun j => if j = 0 then p 1 else p j) j) j) j
theorem sav2 {v : CV} {u : MV} (hR : Rel v u) : ∃ (q' : QV) (P' : FF) (c' : Nat), f_X6_save v = some (v.1, v.2.1, q', nI c', v.2.2.2.2) ∧ f_X7_save u = some (u.1, P', u.2.2.1, u.2.2.2.1, nI c', u.2.2.2.2.2.1, u.2.2.2.2.2.2.1, 0, u.2.2.2.2.2.2.2.2) ∧ RS q' (nI c') P' (nI c') := by
  obtain ⟨hH, ⟨cn, c1, c2, c3, c4, c5, c6⟩, -⟩ := hR
  have hlt : (v.2.2.2.1 < 4) = (cn < 4) := by
    rw [c2]
    exact lt_n (b := 4) (by omega) (by omega)
  by_cases h4 : cn < 4
  · obtain ⟨q', g1, g2, g3, g4⟩ := put6 c2 h4 (c4 cn h4)
    obtain ⟨P', k1, k2, k3⟩ := sv56 (u := (u.1, u.2.1, u.2.2.1, u.2.2.2.1, u.2.2.2.2.1, u.2.2.2.2.2.1, u.2.2.2.2.2.2.1, 0, u.2.2.2.2.2.2.2.2.1, u.2.2.2.2.2.2.2.2.2.1, u.2.2.2.2.2.2.2.2.2.2)) (cn := cn) c3 h4 u.2.1
    refine ⟨q', P', cn + 1, ?_, ?_, cn + 1, by omega, rfl, rfl, by rw [g2]; exact c4, by rw [g2]; exact c5, fun j hj => ?_⟩
    · rw [r6save, if_pos (by rw [hlt]; exact h4), g1]
    · unfold f_X7_save
      have hne : ¬ u.2.2.2.2.1 = 4 := by
        rw [c3]
        show ¬ nI cn = nI 4
        rw [nI_eq (by omega) (by omega)]; omega
      rw [if_neg hne, k1]
      simp only [Option.bind_some]
      rw [c3, nI_1]
    · rw [g2]
      by_cases hjc : j = cn
      · subst hjc
        exact HR_cg (HE_R g3 hH) (fun i hi => k2 i hi)
      · rw [g4 _ (c4 j (by omega)) (fun q => hjc (c5 j cn (by omega) (by omega) q))]
        exact HR_cg (c6 j (by omega)) (fun i hi => k3 _ (by omega))
  · obtain rfl : cn = 4 := by omega
    have hfo : f_X6_forgetOldest v = some (v.1, v.2.1, (pRot v.2.2.1.1, v.2.2.1.2), 3, v.2.2.2.2) := by
      unfold f_X6_forgetOldest
      rw [if_pos (c4 1 (by omega)), if_pos (c4 2 (by omega)), if_pos (c4 3 (by omega)), if_pos (c4 0 (by omega))]
      rfl
    have t0 : pRot v.2.2.1.1 0 = v.2.2.1.1 1 := rfl
    have t1 : pRot v.2.2.1.1 1 = v.2.2.1.1 2 := rfl
    have t2 : pRot v.2.2.1.1 2 = v.2.2.1.1 3 := rfl
    have t3 : pRot v.2.2.1.1 3 = v.2.2.1.1 0 := rfl
    have tj : ∀ j : Nat, j < 3 → pRot v.2.2.1.1 j = v.2.2.1.1 (j + 1) := fun j hj => by
      rcases (by omega : j = 0 ∨ j = 1 ∨ j = 2) with rfl | rfl | rfl
      · exact t0
      · exact t1
      · exact t2
    have r4 : ∀ j : Nat, j < 4 → pRot v.2.2.1.1 j < 4 := fun j hj => by
      by_cases hj3 : j < 3
      · rw [tj j hj3]; exact c4 _ (by omega)
      · obtain rfl : j = 3 := by omega
        rw [t3]; exact c4 0 (by omega)
    have r5 : ∀ i j : Nat, i < 4 → j < 4 → pRot v.2.2.1.1 i = pRot v.2.2.1.1 j → i = j := fun i j hi hj hq => by
      by_cases hi3 : i < 3
      · rw [tj i hi3] at hq
        by_cases hj3 : j < 3
        · rw [tj j hj3] at hq
          have := c5 _ _ (by omega) (by omega) hq
          omega
        · obtain rfl : j = 3 := by omega
          rw [t3] at hq
          have := c5 _ _ (by omega) (by omega) hq
          omega
      · obtain rfl : i = 3 := by omega
        rw [t3] at hq
        by_cases hj3 : j < 3
        · rw [tj j hj3] at hq
          have := c5 _ _ (by omega) (by omega) hq
          omega
        · omega
    obtain ⟨q', g1, g2, g3, g4⟩ := put6 (v := (v.1, v.2.1, (pRot v.2.2.1.1, v.2.2.1.2), 3, v.2.2.2.2)) (cn := 3) rfl (by omega) (r4 3 (by omega))
    obtain ⟨P1, l1, l2⟩ := sv15 (u.1, u.2.1, u.2.2.1, u.2.2.2.1, u.2.2.2.2.1, u.2.2.2.2.2.1, u.2.2.2.2.2.2.1, 0, u.2.2.2.2.2.2.2.2.1, u.2.2.2.2.2.2.2.2.2.1, u.2.2.2.2.2.2.2.2.2.2) u.2.1
    have h31 : u.2.2.2.2.1 - 1 = nI 3 := by rw [c3]; rfl
    obtain ⟨P', k1, k2, k3⟩ := sv56 (u := (u.1, P1, u.2.2.1, u.2.2.2.1, u.2.2.2.2.1 - 1, u.2.2.2.2.2.1, u.2.2.2.2.2.2.1, 0, u.2.2.2.2.2.2.2.2.1, u.2.2.2.2.2.2.2.2.2.1, u.2.2.2.2.2.2.2.2.2.2)) (cn := 3) h31 (by omega) P1
    have g2' : q'.1 = pRot v.2.2.1.1 := g2
    have g3' : HE v.1 (qSel q' (pRot v.2.2.1.1 3)) := g3
    have g4' : ∀ i : Nat, i < 4 → i ≠ pRot v.2.2.1.1 3 → qSel q' i = qSel v.2.2.1 i := g4
    refine ⟨q', P', 4, ?_, ?_, 4, by omega, rfl, rfl, by rw [g2']; exact r4, by rw [g2']; exact r5, fun j hj => ?_⟩
    · rw [r6save, if_neg (by rw [hlt]; omega), hfo]
      simp only [Option.bind_some]
      exact g1
    · unfold f_X7_save
      rw [if_pos (show u.2.2.2.2.1 = 4 from c3), l1]
      simp only [Option.bind_some]
      rw [k1]
      simp only [Option.bind_some]
      rw [h31, nI_1]
    · rw [g2']
      by_cases hjc : j = 3
      · subst hjc
        exact HR_cg (HE_R g3' hH) (fun i hi => k2 i hi)
      · rw [g4' _ (r4 j (by omega)) (fun q => hjc (r5 j 3 (by omega) (by omega) q)), tj j (by omega)]
        refine HR_cg (c6 (j + 1) (by omega)) (fun i hi => ?_)
        show P' (220 * j + i) = u.2.1 (220 * (j + 1) + i)
        rw [k3 _ (by omega), l2 _ (by omega)]
        rw [show 220 * j + i + 220 = 220 * (j + 1) + i by omega]
theorem und2 {v : CV} {u : MV} (hR : Rel v u) {cn : Nat} (hc : v.2.2.2.1 = nI (cn + 1)) (hcn : cn < 4) : ∃ (h' : HV) (s' : FF), f_X6_undo v = some (.inr (nI cn, (h', v.2.1, v.2.2.1, nI cn, v.2.2.2.2))) ∧ f_X7_undo u = some (nI cn, (s', u.2.1, u.2.2.1, u.2.2.2.1, nI cn, u.2.2.2.2.2.1, u.2.2.2.2.2.2.1, 0, u.2.2.2.2.2.2.2.2)) ∧ Rel (h', v.2.1, v.2.2.1, nI cn, v.2.2.2.2) (s', u.2.1, u.2.2.1, u.2.2.2.1, nI cn, u.2.2.2.2.2.1, u.2.2.2.2.2.2.1, 0, u.2.2.2.2.2.2.2.2) := by
  obtain ⟨hH, ⟨c0, c1, c2, c3, c4, c5, c6⟩, hT⟩ := hR
  obtain rfl : c0 = cn + 1 := by
    rw [hc, nI_eq (by omega) (by omega)] at c2
    exact c2.symm
  have hm1 : nI (cn + 1) - 1 = nI cn := pk_sub (a := cn + 1) (b := 1) (by omega)
  have hix : ∀ a : Nat, (220 : Int32) * nI cn + nI a = nI (220 * cn + a) := fun a => by
    rw [show (220 : Int32) = nI 220 from rfl, pk_mul, nI_add]
  have hpos : (0 : Int32) < nI (cn + 1) := by
    show nI 0 < nI (cn + 1)
    rw [nI_ltI (by omega) (by omega)]; omega
  -- the row
  have h1 := zlF' (f := s_X7_undo_25 (u.1, u.2.1, u.2.2.1, u.2.2.2.1, nI cn, u.2.2.2.2.2.1, u.2.2.2.2.2.2.1, u.2.2.2.2.2.2.2.1, u.2.2.2.2.2.2.2.2.1, u.2.2.2.2.2.2.2.2.2.1, u.2.2.2.2.2.2.2.2.2.2)) (fun a (x : FF) => (nI a, x)) (fun x => (nI 220, x)) (fun a x => upd x (0 + a) (u.2.1 (220 * cn + a))) 220
    (fun a x ha => by
      have h220 : ((220 : Int32) ≤ nI a) = (220 ≤ a) := le_n (a := 220) (by omega) (by omega)
      unfold s_X7_undo_25
      simp only [h220, hix]
      rw [if_neg (by omega), if_pos (zin_n (by omega) (by omega)), if_pos (zin_n ha (by omega)), cl_n (by omega), cl_n (by omega), nI_1, Nat.zero_add])
    (fun x => by simp [s_X7_undo_25, show (220 : Int32) ≤ nI 220 by decide]) 220 0 u.1 4096 (by omega) (by omega)
  obtain ⟨s', hs'⟩ : ∃ s' : FF, s' = pF (fun a (x : FF) => upd x (0 + a) (u.2.1 (220 * cn + a))) 220 0 u.1 := ⟨_, rfl⟩
  rw [← hs'] at h1
  have h2 : zloop (s_X7_undo_25 (u.1, u.2.1, u.2.2.1, u.2.2.2.1, nI cn, u.2.2.2.2.2.1, u.2.2.2.2.2.2.1, u.2.2.2.2.2.2.2.1, u.2.2.2.2.2.2.2.2.1, u.2.2.2.2.2.2.2.2.2.1, u.2.2.2.2.2.2.2.2.2.2)) 4096 (0, u.1) = some (nI 220, s') := h1
  have hrow : ∀ a : Nat, a < 220 → s' a = u.2.1 (220 * cn + a) := fun a ha => by
    have h3 := (cpg 0 (fun a => u.2.1 (220 * cn + a)) 220 u.1).1 a ha
    rw [Nat.zero_add] at h3
    rw [hs']
    exact h3
  obtain ⟨r, w1, w2⟩ := cpy2 v.1 (qSel v.2.2.1 (v.2.2.1.1 cn))
  refine ⟨r, s', ?_, ?_, HR_cg (HE_R w2 (c6 cn (by omega))) hrow, ⟨cn, by omega, rfl, rfl, c4, c5, fun j hj => c6 j (by omega)⟩, hT⟩
  · have hp := c4 cn hcn
    unfold f_X6_undo
    rw [hc, if_pos hpos, hm1, if_pos (zin_n hcn (by omega)), cl_n (by omega)]
    obtain ⟨i, hi⟩ : ∃ i : Nat, v.2.2.1.1 cn = i := ⟨_, rfl⟩
    rw [hi] at hp w1 ⊢
    rcases (by omega : i = 0 ∨ i = 1 ∨ i = 2 ∨ i = 3) with rfl | rfl | rfl | rfl
    · have w1' : f_X2_copyFrom v.1 v.2.2.1.2.1 = some r := w1
      rw [if_pos rfl, w1']
      rfl
    · have w1' : f_X2_copyFrom v.1 v.2.2.1.2.2.1 = some r := w1
      rw [if_neg (by decide), if_pos rfl, w1']
      rfl
    · have w1' : f_X2_copyFrom v.1 v.2.2.1.2.2.2.1 = some r := w1
      rw [if_neg (by decide), if_neg (by decide), if_pos rfl, w1']
      rfl
    · have w1' : f_X2_copyFrom v.1 v.2.2.1.2.2.2.2 = some r := w1
      rw [if_neg (by decide), if_neg (by decide), if_neg (by decide), if_pos rfl, w1']
      rfl
  · unfold f_X7_undo
    have hne : ¬ nI (cn + 1) = (0 : Int32) := by
      show ¬ nI (cn + 1) = nI 0
      rw [nI_eq (by omega) (by omega)]; omega
    rw [c3, if_neg hne, hm1, h2]
    rfl
