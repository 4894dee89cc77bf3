/-! The pure part: the choice of fillers. -/
theorem pLen_0 (s : FF) : ∀ k : Nat, pLen s k 0 = 0 := by
  intro k
  induction k with
  | zero => rfl
  | succ k ih => simp [pLen, ih]
theorem pPop_le (M : Nat) : pPop M ≤ 10 := by
  unfold pPop
  have h : ∀ x : Nat, x % 2 ≤ 1 := fun x => by omega
  have h0 := h (M / 2 ^ 0)
  have h1 := h (M / 2 ^ 1)
  have h2 := h (M / 2 ^ 2)
  have h3 := h (M / 2 ^ 3)
  have h4 := h (M / 2 ^ 4)
  have h5 := h (M / 2 ^ 5)
  have h6 := h (M / 2 ^ 6)
  have h7 := h (M / 2 ^ 7)
  have h8 := h (M / 2 ^ 8)
  have h9 := h (M / 2 ^ 9)
  generalize M / 2 ^ 0 % 2 = a0 at *
  generalize M / 2 ^ 1 % 2 = a1 at *
  generalize M / 2 ^ 2 % 2 = a2 at *
  generalize M / 2 ^ 3 % 2 = a3 at *
  generalize M / 2 ^ 4 % 2 = a4 at *
  generalize M / 2 ^ 5 % 2 = a5 at *
  generalize M / 2 ^ 6 % 2 = a6 at *
  generalize M / 2 ^ 7 % 2 = a7 at *
  generalize M / 2 ^ 8 % 2 = a8 at *
  generalize M / 2 ^ 9 % 2 = a9 at *
  omega
theorem pSub_lt {x W : Nat} (h : pSub x W) (hW : W < 1024) : x < 1024 := by
  have h1 : x < 2 ^ 10 := Nat.lt_pow_two_of_testBit x (fun i hi => by
    cases hx : x.testBit i with
    | false => rfl
    | true =>
      have h2 := h i hx
      rw [Nat.testBit_lt_two_pow (Nat.lt_of_lt_of_le hW (show 1024 ≤ 2 ^ i from Nat.pow_le_pow_right (n := 2) (by decide) hi))] at h2
      cases h2)
  exact h1
theorem pSub_le {x W : Nat} (h : pSub x W) : x ≤ W := by
  have h1 : x &&& W = x := Nat.eq_of_testBit_eq (fun i => by
    rw [Nat.testBit_and]
    cases hx : x.testBit i with
    | false => rfl
    | true => rw [h i hx]; rfl)
  have h2 : x &&& W ≤ W := Nat.and_le_right
  omega
theorem pSub_d {x W : Nat} (hx : x < 1024) : (nI x &&& (nI W ^^^ (-1)) = 0) = pSub x W := by
  have e : (nI x &&& (nI W ^^^ (-1))).toBitVec = BitVec.ofNat 32 x &&& (BitVec.ofNat 32 W ^^^ BitVec.allOnes 32) := by
    rw [Int32.toBitVec_and, Int32.toBitVec_xor]
    rfl
  have hb : ∀ i : Nat, (nI x &&& (nI W ^^^ (-1))).toBitVec.getLsbD i = ((decide (i < 32) && x.testBit i) && ((decide (i < 32) && W.testBit i) ^^ decide (i < 32))) := fun i => by
    rw [e, BitVec.getLsbD_and, BitVec.getLsbD_xor, BitVec.getLsbD_ofNat, BitVec.getLsbD_ofNat, BitVec.getLsbD_allOnes]
  apply propext
  constructor
  · intro h i hi
    have hi32 : i < 32 := by
      by_cases hc : i < 32
      · exact hc
      · rw [Nat.testBit_lt_two_pow (Nat.lt_of_lt_of_le hx (show 1024 ≤ 2 ^ i from Nat.le_trans (by decide : 1024 ≤ 2 ^ 32) (Nat.pow_le_pow_right (n := 2) (by decide) (by omega))))] at hi
        cases hi
    have h2 := hb i
    rw [h] at h2
    have h3 : (0 : Int32).toBitVec.getLsbD i = false := BitVec.getLsbD_zero
    rw [h3, hi] at h2
    simp only [hi32, decide_true, Bool.true_and, Bool.xor_true] at h2
    cases hW : W.testBit i with
    | true => rfl
    | false => rw [hW] at h2; cases h2
  · intro h
    apply Int32.toBitVec_inj.mp
    apply BitVec.eq_of_getLsbD_eq
    intro i hi
    rw [hb i]
    have h3 : (0 : Int32).toBitVec.getLsbD i = false := BitVec.getLsbD_zero
    rw [h3]
    cases hx : x.testBit i with
    | false => simp
    | true => rw [h i hx]; simp
/-- x is a better choice than y -/
def pBt (s : FF) (m x y : Nat) : Prop := (pLen s m y).toInt < (pLen s m x).toInt ∨ ((pLen s m x).toInt = (pLen s m y).toInt ∧ (pPop x < pPop y ∨ (pPop x = pPop y ∧ x < y)))
/-- x can be chosen -/
def pCa (s : FF) (m : Nat) (room : Int32) (W x : Nat) : Prop := x = 0 ∨ (pSub x W ∧ (pLen s m x).toInt ≤ room.toInt)
theorem pBest_u {s : FF} {m : Nat} {room : Int32} {W B C : Nat} (h1 : pCa s m room W B) (h2 : ∀ x : Nat, pCa s m room W x → ¬ pBt s m x B) (h3 : pCa s m room W C) (h4 : ∀ x : Nat, pCa s m room W x → ¬ pBt s m x C) : B = C := by
  have a1 := h2 C h3
  have a2 := h4 B h1
  unfold pBt at a1 a2
  omega
theorem pBt_tr {s : FF} {m x y z : Nat} (h : pBt s m y z) (h2 : ¬ pBt s m x z) : ¬ pBt s m x y := by
  unfold pBt at *
  omega
theorem ch1 {f : FV} {s : FF} {m : Nat} (h : FR f s m) (room : Int32) : ∃ (B : Nat) (w : WV), f_X1_chooseFor f room = some (nI B, (f.1, f.2.1, f.2.2.1, f.2.2.2.1, w)) ∧ pCa s m room (pWm s m) B ∧ ∀ x : Nat, pCa s m room (pWm s m) x → ¬ pBt s m x B := by
  have hm := h.1
  obtain ⟨c, e, fl, ln, hc, hb, he, hd, hU⟩ := be4 h f.2.2.2.2
  obtain ⟨hg1, hg2⟩ := pG_all e c (by omega) hd
  rw [hU] at hg1 hg2
  have hW : pWm s m < 1024 := Nat.lt_of_lt_of_le (pWm_lt s m) (Nat.pow_le_pow_right (n := 2) (by decide) hm)
  have hp : 2 ^ c ≤ 1024 := (show 2 ^ c ≤ 2 ^ 10 from Nat.pow_le_pow_right (n := 2) (by decide) (Nat.le_trans hc hm))
  obtain ⟨r, h1, B, T, w, rfl, h2, h3⟩ := zl1 (f := s_X1_chooseFor_20 (f.1, f.2.1, f.2.2.1, f.2.2.2.1, (fl, ln, nI c, 0, 0, 0)) room (nI (2 ^ c)))
    (fun k x => ∃ T B : Nat, k = 2 ^ c - (T + 1) ∧ T + 1 ≤ 2 ^ c ∧ x = (nI B, pLen s m B, nI (pPop B), nI (T + 1), (fl, ln, nI c, nI (pG e T), pLen s m (pG e T), nI (pPop (pG e T)))) ∧ B < 1024 ∧ pCa s m room (pWm s m) B ∧ ∀ t : Nat, t ≤ T → pCa s m room (pWm s m) (pG e t) → ¬ pBt s m (pG e t) B)
    (fun r => ∃ (B T : Nat) (w : WV), r = (nI B, pLen s m B, nI (pPop B), nI T, w) ∧ pCa s m room (pWm s m) B ∧ ∀ x : Nat, pCa s m room (pWm s m) x → ¬ pBt s m x B)
    (by
      rintro k x ⟨T, B, rfl, hT, rfl, hB, hca, hbe⟩
      by_cases hl : 2 ^ c ≤ T + 1
      · refine Or.inl ⟨_, by
          unfold s_X1_chooseFor_20
          rw [if_pos (by rw [nI_leI (by omega) (by omega)]; exact hl)], B, T + 1, _, rfl, hca, fun x hx => ?_⟩
        obtain ⟨t, ht, rfl⟩ := hg2 x (hx.elim (fun q => q ▸ pSub_0 _) (fun q => q.1))
        exact hbe t (by omega) hx
      · have hlt : T + 1 < 2 ^ c := by omega
        have hS : pG e T < 1024 := pSub_lt (hg1 T (by omega)) hW
        have hN : pG e (T + 1) < 1024 := pSub_lt (hg1 (T + 1) hlt) hW
        have hgo := go4 (s := s) (m := m) (c := c) (e := e) hm (by omega) he (t := T) (S := pG e T) hlt hS
        have hgo' : f_X4_go (fl, ln, nI c, nI (pG e T), pLen s m (pG e T), nI (pPop (pG e T))) (nI (T + 1)) = some (fl, ln, nI c, nI (pG e (T + 1)), pLen s m (pG e (T + 1)), nI (pPop (pG e (T + 1)))) := hgo
        have hsub := hg1 (T + 1) hlt
        have p1 := pPop_le B
        have p2 := pPop_le (pG e (T + 1))
        by_cases hbt : pBt s m (pG e (T + 1)) B ∧ (pLen s m (pG e (T + 1))).toInt ≤ room.toInt
        · refine Or.inr ⟨2 ^ c - (T + 1 + 1), (nI (pG e (T + 1)), pLen s m (pG e (T + 1)), nI (pPop (pG e (T + 1))), nI (T + 1 + 1), (fl, ln, nI c, nI (pG e (T + 1)), pLen s m (pG e (T + 1)), nI (pPop (pG e (T + 1))))), ?_, by omega, T + 1, pG e (T + 1), rfl, by omega, rfl, hN, Or.inr ⟨hsub, hbt.2⟩, fun t ht hcc => ?_⟩
          · generalize pG e (T + 1) = N at *
            unfold s_X1_chooseFor_20
            rw [if_neg (by rw [nI_leI (by omega) (by omega)]; exact hl), hgo']
            simp only [Option.bind_some, Int32.lt_iff_toInt_lt, Int32.le_iff_toInt_le, ← Int32.toInt_inj, nI_toInt (show pPop N < 2 ^ 31 by omega), nI_toInt (show pPop B < 2 ^ 31 by omega), nI_toInt (show N < 2 ^ 31 by omega), nI_toInt (show B < 2 ^ 31 by omega), nI_1]
            unfold pBt at hbt
            repeat' split
            all_goals first | rfl | (exfalso; omega)
          · by_cases htT : t = T + 1
            · subst htT; unfold pBt; omega
            · exact pBt_tr hbt.1 (hbe t (by omega) hcc)
        · refine Or.inr ⟨2 ^ c - (T + 1 + 1), (nI B, pLen s m B, nI (pPop B), nI (T + 1 + 1), (fl, ln, nI c, nI (pG e (T + 1)), pLen s m (pG e (T + 1)), nI (pPop (pG e (T + 1))))), ?_, by omega, T + 1, B, rfl, by omega, rfl, hB, hca, fun t ht hcc => ?_⟩
          · generalize pG e (T + 1) = N at *
            unfold s_X1_chooseFor_20
            rw [if_neg (by rw [nI_leI (by omega) (by omega)]; exact hl), hgo']
            simp only [Option.bind_some, Int32.lt_iff_toInt_lt, Int32.le_iff_toInt_le, ← Int32.toInt_inj, nI_toInt (show pPop N < 2 ^ 31 by omega), nI_toInt (show pPop B < 2 ^ 31 by omega), nI_toInt (show N < 2 ^ 31 by omega), nI_toInt (show B < 2 ^ 31 by omega), nI_1]
            unfold pBt at hbt
            repeat' split
            all_goals first | rfl | (exfalso; omega)
          · by_cases htT : t = T + 1
            · subst htT
              intro hq
              apply hbt
              refine ⟨hq, ?_⟩
              rcases hcc with h0 | h0
              · exfalso
                have h00 := hbe 0 (by omega) (Or.inl rfl)
                rw [h0] at hq
                exact h00 hq
              · exact h0.2
            · exact hbe t (by omega) hcc)
    4096 (2 ^ c - 1) (nI 0, 0, nI 0, nI 1, (fl, ln, nI c, nI 0, 0, nI 0)) (by omega) ⟨0, 0, by omega, Nat.two_pow_pos c, by simp [pLen_0, pG, pPop], by omega, Or.inl rfl, fun t ht _ => by
      obtain rfl : t = 0 := by omega
      unfold pBt
      simp [pG]⟩
  have h1' : zloop (s_X1_chooseFor_20 (f.1, f.2.1, f.2.2.1, f.2.2.2.1, (fl, ln, nI c, 0, 0, 0)) room (nI (2 ^ c))) 4096 (0, 0, 0, 1, (fl, ln, nI c, 0, 0, 0)) = some (nI B, pLen s m B, nI (pPop B), nI T, w) := h1
  refine ⟨B, w, ?_, h2, h3⟩
  unfold f_X1_chooseFor
  rw [hb]
  simp only [Option.bind_some]
  rw [h1']
  rfl
theorem ch7 {u : MV} {m : Nat} (hm : m ≤ 10) (h8 : u.1 8 = nI m) (room : Int32) : ∃ B : Nat, f_X7_chosen u room = some (nI B) ∧ pCa u.1 m room (pWm u.1 m) B ∧ ∀ x : Nat, pCa u.1 m room (pWm u.1 m) x → ¬ pBt u.1 m x B := by
  have hW : pWm u.1 m < 1024 := Nat.lt_of_lt_of_le (pWm_lt u.1 m) (Nat.pow_le_pow_right (n := 2) (by decide) hm)
  have hwm := wm7 hm h8
  generalize pWm u.1 m = W at *
  obtain ⟨r, h1, B, X, rfl, h2, h3⟩ := zl1 (f := s_X7_chosen_13 u room (nI W))
    (fun k x => ∃ X B : Nat, k = W + 1 - X ∧ X ≤ W + 1 ∧ 1 ≤ X ∧ x = (nI B, pLen u.1 m B, nI X) ∧ B < X ∧ pCa u.1 m room W B ∧ ∀ y : Nat, y < X → pCa u.1 m room W y → ¬ pBt u.1 m y B)
    (fun r => ∃ B X : Nat, r = (nI B, pLen u.1 m B, nI X) ∧ pCa u.1 m room W B ∧ ∀ x : Nat, pCa u.1 m room W x → ¬ pBt u.1 m x B)
    (by
      rintro k x ⟨X, B, rfl, hX, hX1, rfl, hB, hca, hbe⟩
      by_cases hl : W < X
      · refine Or.inl ⟨_, by
          unfold s_X7_chosen_13
          rw [if_pos (by rw [nI_ltI (by omega) (by omega)]; exact hl)], B, X, rfl, hca, fun x hx => hbe x ?_ hx⟩
        rcases hx with rfl | hx
        · omega
        · have h4 : x ≤ W := pSub_le hx.1
          omega
      · have hstep : ∀ hs : ¬ pSub X W, s_X7_chosen_13 u room (nI W) (nI B, pLen u.1 m B, nI X) = some (.inl (nI B, pLen u.1 m B, nI (X + 1))) := fun hs => by
          unfold s_X7_chosen_13
          rw [if_neg (by rw [nI_ltI (by omega) (by omega)]; exact hl), if_neg (by rw [pSub_d (by omega)]; exact hs), nI_1]
        by_cases hs : pSub X W
        · have p1 := pPop_le B
          have p2 := pPop_le X
          by_cases hbt : pBt u.1 m X B ∧ (pLen u.1 m X).toInt ≤ room.toInt
          · refine Or.inr ⟨W + 1 - (X + 1), (nI X, pLen u.1 m X, nI (X + 1)), ?_, by omega, X + 1, X, rfl, by omega, by omega, rfl, by omega, Or.inr ⟨hs, hbt.2⟩, fun y hy hcc => ?_⟩
            · unfold s_X7_chosen_13
              rw [if_neg (by rw [nI_ltI (by omega) (by omega)]; exact hl), if_pos (by rw [pSub_d (by omega)]; exact hs)]
              simp only [Option.bind_some, len7 hm h8 (show X < 2 ^ 31 by omega), ones7 (show X < 2 ^ 31 by omega), ones7 (show B < 2 ^ 31 by omega), Int32.lt_iff_toInt_lt, Int32.le_iff_toInt_le, ← Int32.toInt_inj, nI_toInt (show pPop X < 2 ^ 31 by omega), nI_toInt (show pPop B < 2 ^ 31 by omega), nI_1]
              unfold pBt at hbt
              repeat' split
              all_goals first | rfl | (exfalso; omega)
            · by_cases hyX : y = X
              · subst hyX; unfold pBt; omega
              · exact pBt_tr hbt.1 (hbe y (by omega) hcc)
          · refine Or.inr ⟨W + 1 - (X + 1), (nI B, pLen u.1 m B, nI (X + 1)), ?_, by omega, X + 1, B, rfl, by omega, by omega, rfl, by omega, hca, fun y hy hcc => ?_⟩
            · unfold s_X7_chosen_13
              rw [if_neg (by rw [nI_ltI (by omega) (by omega)]; exact hl), if_pos (by rw [pSub_d (by omega)]; exact hs)]
              simp only [Option.bind_some, len7 hm h8 (show X < 2 ^ 31 by omega), ones7 (show X < 2 ^ 31 by omega), ones7 (show B < 2 ^ 31 by omega), Int32.lt_iff_toInt_lt, Int32.le_iff_toInt_le, ← Int32.toInt_inj, nI_toInt (show pPop X < 2 ^ 31 by omega), nI_toInt (show pPop B < 2 ^ 31 by omega), nI_1]
              unfold pBt at hbt
              repeat' split
              all_goals first | rfl | (exfalso; omega)
            · by_cases hyX : y = X
              · subst hyX
                rcases hcc with h0 | h0
                · omega
                · exact fun hq => hbt ⟨hq, h0.2⟩
              · exact hbe y (by omega) hcc
        · refine Or.inr ⟨W + 1 - (X + 1), _, hstep hs, by omega, X + 1, B, rfl, by omega, by omega, rfl, by omega, hca, fun y hy hcc => ?_⟩
          by_cases hyX : y = X
          · subst hyX
            rcases hcc with h0 | h0
            · omega
            · exact absurd h0.1 hs
          · exact hbe y (by omega) hcc)
    4096 W (nI 0, 0, nI 1) (by omega) ⟨1, 0, by omega, by omega, by omega, by simp [pLen_0], by omega, Or.inl rfl, fun y hy _ => by
      obtain rfl : y = 0 := by omega
      unfold pBt
      simp⟩
  refine ⟨B, ?_, h2, h3⟩
  have h1' : zloop (s_X7_chosen_13 u room (nI W)) 4096 (0, 0, 1) = some (nI B, pLen u.1 m B, nI X) := h1
  unfold f_X7_chosen
  rw [hwm]
  simp only [Option.bind_some]
  rw [h1']
  rfl
theorem choose2 {f : FV} {u : MV} {m : Nat} (h : FR f u.1 m) (room : Int32) : ∃ (B : Nat) (w : WV), f_X1_chooseFor f room = some (nI B, (f.1, f.2.1, f.2.2.1, f.2.2.2.1, w)) ∧ f_X7_chosen u room = some (nI B) ∧ pSub B (pWm u.1 m) ∧ B < 1024 := by
  obtain ⟨B, w, h1, h2, h3⟩ := ch1 h room
  obtain ⟨C, h4, h5, h6⟩ := ch7 h.1 h.2.2.1 room
  obtain rfl := pBest_u h2 h3 h5 h6
  have hs : pSub B (pWm u.1 m) := h2.elim (fun q => q ▸ pSub_0 _) (fun q => q.1)
  exact ⟨B, w, h1, h4, hs, pSub_lt hs (Nat.lt_of_lt_of_le (pWm_lt u.1 m) (Nat.pow_le_pow_right (n := 2) (by decide) h.1))⟩
