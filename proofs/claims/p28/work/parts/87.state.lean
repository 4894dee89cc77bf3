/-! What is saved; the relation between the class and the law's arrays. -/
abbrev QV : Type := (Nat → Nat) × HV × HV × HV × HV
def qSel (q : QV) (i : Nat) : HV := if i = 0 then q.2.1 else if i = 1 then q.2.2.1 else if i = 2 then q.2.2.2.1 else q.2.2.2.2
def r6put (v : CV) : Option CV :=
    if zin v.2.2.2.1 4 = true then
    if (v.2.2.1.1 v.2.2.2.1.toNatClampNeg) = 0 then
      (f_X2_copyFrom v.2.2.1.2.1 v.1).bind (fun u3 =>
      some (v.1, v.2.1, (v.2.2.1.1, u3, v.2.2.1.2.2.1, v.2.2.1.2.2.2.1, v.2.2.1.2.2.2.2), (v.2.2.2.1 + 1), v.2.2.2.2))
    else
      if (v.2.2.1.1 v.2.2.2.1.toNatClampNeg) = 1 then
        (f_X2_copyFrom v.2.2.1.2.2.1 v.1).bind (fun u4 =>
        some (v.1, v.2.1, (v.2.2.1.1, v.2.2.1.2.1, u4, v.2.2.1.2.2.2.1, v.2.2.1.2.2.2.2), (v.2.2.2.1 + 1), v.2.2.2.2))
      else
        if (v.2.2.1.1 v.2.2.2.1.toNatClampNeg) = 2 then
          (f_X2_copyFrom v.2.2.1.2.2.2.1 v.1).bind (fun u5 =>
          some (v.1, v.2.1, (v.2.2.1.1, v.2.2.1.2.1, v.2.2.1.2.2.1, u5, v.2.2.1.2.2.2.2), (v.2.2.2.1 + 1), v.2.2.2.2))
        else
          if (v.2.2.1.1 v.2.2.2.1.toNatClampNeg) = 3 then
            (f_X2_copyFrom v.2.2.1.2.2.2.2 v.1).bind (fun u6 =>
            some (v.1, v.2.1, (v.2.2.1.1, v.2.2.1.2.1, v.2.2.1.2.2.1, v.2.2.1.2.2.2.1, u6), (v.2.2.2.1 + 1), v.2.2.2.2))
          else
            none
    else none
theorem r6save (v : CV) : f_X6_save v = if v.2.2.2.1 < 4 then r6put v else (f_X6_forgetOldest v).bind r6put := rfl
theorem put6 {v : CV} {cn : Nat} (hc : v.2.2.2.1 = nI cn) (hcn : cn < 4) (hp : v.2.2.1.1 cn < 4) : ∃ q' : QV, r6put v = some (v.1, v.2.1, q', nI (cn + 1), v.2.2.2.2) ∧ q'.1 = v.2.2.1.1 ∧ HE v.1 (qSel q' (v.2.2.1.1 cn)) ∧ ∀ i : Nat, i < 4 → i ≠ v.2.2.1.1 cn → qSel q' i = qSel v.2.2.1 i := by
  have hz : zin (nI cn) 4 = true := zin_n hcn (by omega)
  have hcl : (nI cn).toNatClampNeg = cn := cl_n (by omega)
  unfold r6put
  rw [hc, if_pos hz, hcl, nI_1]
  obtain ⟨i, hi⟩ : ∃ i : Nat, v.2.2.1.1 cn = i := ⟨_, rfl⟩
  rw [hi] at hp ⊢
  rcases (by omega : i = 0 ∨ i = 1 ∨ i = 2 ∨ i = 3) with rfl | rfl | rfl | rfl
  · obtain ⟨r, h1, h2⟩ := cpy2 v.2.2.1.2.1 v.1
    rw [if_pos rfl, h1]
    refine ⟨(v.2.2.1.1, r, v.2.2.1.2.2.1, v.2.2.1.2.2.2.1, v.2.2.1.2.2.2.2), rfl, rfl, h2, fun j hj hji => ?_⟩
    rcases (by omega : j = 1 ∨ j = 2 ∨ j = 3) with rfl | rfl | rfl <;> rfl
  · obtain ⟨r, h1, h2⟩ := cpy2 v.2.2.1.2.2.1 v.1
    rw [if_neg (by decide), if_pos rfl, h1]
    refine ⟨(v.2.2.1.1, v.2.2.1.2.1, r, v.2.2.1.2.2.2.1, v.2.2.1.2.2.2.2), rfl, rfl, h2, fun j hj hji => ?_⟩
    rcases (by omega : j = 0 ∨ j = 2 ∨ j = 3) with rfl | rfl | rfl <;> rfl
  · obtain ⟨r, h1, h2⟩ := cpy2 v.2.2.1.2.2.2.1 v.1
    rw [if_neg (by decide), if_neg (by decide), if_pos rfl, h1]
    refine ⟨(v.2.2.1.1, v.2.2.1.2.1, v.2.2.1.2.2.1, r, v.2.2.1.2.2.2.2), rfl, rfl, h2, fun j hj hji => ?_⟩
    rcases (by omega : j = 0 ∨ j = 1 ∨ j = 3) with rfl | rfl | rfl <;> rfl
  · obtain ⟨r, h1, h2⟩ := cpy2 v.2.2.1.2.2.2.2 v.1
    rw [if_neg (by decide), if_neg (by decide), if_neg (by decide), if_pos rfl, h1]
    refine ⟨(v.2.2.1.1, v.2.2.1.2.1, v.2.2.1.2.2.1, v.2.2.1.2.2.2.1, r), rfl, rfl, h2, fun j hj hji => ?_⟩
    rcases (by omega : j = 0 ∨ j = 1 ∨ j = 2) with rfl | rfl | rfl <;> rfl
/-- the slots, once the oldest has gone to the end -/
def pRot (p : Nat → Nat) : Nat → Nat := fun j => if j = 3 then p 0 else (fun j => if j = 2 then p 3 else (fun j => if j = 1 then p 2 else (fun j => if j = 0 then p 1 else p j) j) j) j
/-- the saved hours: how many, and where they lie -/
def SQ (q : QV) (c : Int32) : Prop := ∃ cn : Nat, cn ≤ 4 ∧ c = nI cn ∧ ∀ j : Nat, j < 4 → q.1 j < 4
theorem sv8 {v : CV} (h : SQ v.2.2.1 v.2.2.2.1) : ∃ (q' : QV) (c' : Int32), f_X6_save v = some (v.1, v.2.1, q', c', v.2.2.2.2) ∧ SQ q' c' := by
  obtain ⟨cn, c1, c2, c4⟩ := h
  have hlt : (v.2.2.2.1 < 4) = (cn < 4) := by
    rw [c2]
    exact lt_n (b := 4) (by omega) (by omega)
  by_cases h4 : cn < 4
  · obtain ⟨q', g1, g2, -, -⟩ := put6 c2 h4 (c4 cn h4)
    refine ⟨q', nI (cn + 1), ?_, cn + 1, by omega, rfl, by rw [g2]; exact c4⟩
    rw [r6save, if_pos (by rw [hlt]; exact h4), g1]
  · obtain rfl : cn = 4 := by omega
    have hfo : f_X6_forgetOldest v = some (v.1, v.2.1, (pRot v.2.2.1.1, v.2.2.1.2), 3, v.2.2.2.2) := by
      unfold f_X6_forgetOldest
      rw [if_pos (c4 1 (by omega)), if_pos (c4 2 (by omega)), if_pos (c4 3 (by omega)), if_pos (c4 0 (by omega))]
      rfl
    have r4 : ∀ j : Nat, j < 4 → pRot v.2.2.1.1 j < 4 := fun j hj => by
      rcases (by omega : j = 0 ∨ j = 1 ∨ j = 2 ∨ j = 3) with rfl | rfl | rfl | rfl
      · exact c4 1 (by omega)
      · exact c4 2 (by omega)
      · exact c4 3 (by omega)
      · exact c4 0 (by omega)
    obtain ⟨q', g1, g2, -, -⟩ := put6 (v := (v.1, v.2.1, (pRot v.2.2.1.1, v.2.2.1.2), 3, v.2.2.2.2)) (cn := 3) rfl (by omega) (r4 3 (by omega))
    have g2' : q'.1 = pRot v.2.2.1.1 := g2
    refine ⟨q', nI 4, ?_, 4, by omega, rfl, by rw [g2']; exact r4⟩
    rw [r6save, if_neg (by rw [hlt]; omega), hfo, Option.bind_some]
    exact g1
/-- the class and the law's arrays, by a row between them -/
def JR (v : CV) (g e f l s : FF) (n m k : Nat) : Prop := HR0 v.1 s n m ∧ LR v.1.2.2.1 s k ∧ pIn s n m k ∧ SQ v.2.2.1 v.2.2.2.1 ∧ RW g e f l s n m k ∧ EN s n ∧ (s 1 = 1 → s 2 = 0) ∧ BG s n
def JJ (v : CV) (g e f l : FF) : Prop := ∃ (s : FF) (n m k : Nat), JR v g e f l s n m k
/-- what a call of the law owes -/
def AK (x : Option (Bool × FF × FF × FF × FF × CV)) : Prop := ∃ (v' : CV) (g' e' f' l' : FF), x = some (true, g', e', f', l', v') ∧ JJ v' g' e' f' l'
theorem zb1 : ¬ zb true = 0 := by decide
theorem zb0 : zb false = 0 := by decide
theorem ov2 {h : HV} {s : FF} {n m k : Nat} (h0 : HR0 h s n m) (hin : pIn s n m k) : (zb h.2.2.2.2.1 = 0 ∧ s 1 = 0 ∧ ¬ s 1 = 1) ∨ (¬ zb h.2.2.2.2.1 = 0 ∧ ¬ s 1 = 0 ∧ s 1 = 1) := by
  have h4 := h0.2.2.2.1
  rcases hin.2.2.1 with q | q
  · refine Or.inl ⟨h4.trans q, q, ?_⟩
    rw [q]; decide
  · refine Or.inr ⟨?_, ?_, q⟩
    · rw [h4, q]; decide
    · rw [q]; decide
/-- remainders and quotients -/
theorem rmd {V : Nat} (hV : V < 2 ^ 31) (d : Nat) (h0 : 0 < d) (hd : d < 2 ^ 31) : nI V - nI V / nI d * nI d = nI (V % d) := pk_rem hV h0 hd
