/-! What the class tells, beside the row. -/
def uM (s : FF) : MV := (s, s, s, s, 0, s, 0, 0, 0, 0, 0)
theorem te0 {e : EV} {s : FF} {n i : Nat} (h : ER e s n) (hi : i < n) : f_X0_tell e (nI i) 0 = some (pL s i) := by
  have hn := h.1
  obtain ⟨e1, e2, e3, e4, e5⟩ := h.2.2.2 i hi
  unfold f_X0_tell
  rw [hasN h hi, Option.bind_some, if_neg zb1, if_pos rfl, if_pos (zin_n (by omega) (by omega)), cl_n (by omega), e1]
theorem te1 {e : EV} {s : FF} {n i : Nat} (h : ER e s n) (hi : i < n) : f_X0_tell e (nI i) 1 = some (pT s i) := by
  have hn := h.1
  obtain ⟨e1, e2, e3, e4, e5⟩ := h.2.2.2 i hi
  unfold f_X0_tell
  rw [hasN h hi, Option.bind_some, if_neg zb1, if_neg (by decide), if_pos rfl, if_pos (zin_n (by omega) (by omega)), cl_n (by omega), e2]
theorem te2 {e : EV} {s : FF} {n i : Nat} (h : ER e s n) (hi : i < n) : f_X0_tell e (nI i) 2 = some (pK s i) := by
  have hn := h.1
  obtain ⟨e1, e2, e3, e4, e5⟩ := h.2.2.2 i hi
  unfold f_X0_tell
  rw [hasN h hi, Option.bind_some, if_neg zb1, if_neg (by decide), if_neg (by decide), if_pos rfl, if_pos (zin_n (by omega) (by omega)), cl_n (by omega), e3]
theorem te3 {e : EV} {s : FF} {n i : Nat} (h : ER e s n) (hi : i < n) : f_X0_tell e (nI i) 3 = some (pS s i) := by
  have hn := h.1
  obtain ⟨e1, e2, e3, e4, e5⟩ := h.2.2.2 i hi
  unfold f_X0_tell
  rw [hasN h hi, Option.bind_some, if_neg zb1, if_neg (by decide), if_neg (by decide), if_neg (by decide), if_pos rfl, if_pos (zin_n (by omega) (by omega)), cl_n (by omega), e4]
theorem te4 {e : EV} {s : FF} {n i : Nat} (h : ER e s n) (hi : i < n) : f_X0_tell e (nI i) 4 = some (pB s i) := by
  have hn := h.1
  obtain ⟨e1, e2, e3, e4, e5⟩ := h.2.2.2 i hi
  unfold f_X0_tell
  rw [hasN h hi, Option.bind_some, if_neg zb1, if_neg (by decide), if_neg (by decide), if_neg (by decide), if_neg (by decide), if_pos rfl, if_pos (zin_n (by omega) (by omega)), cl_n (by omega), e5]
theorem te5 {e : EV} {s : FF} {n i : Nat} (h : ER e s n) (hi : i < n) : f_X0_tell e (nI i) 5 = some (pLate s i) := by
  unfold f_X0_tell
  rw [hasN h hi, Option.bind_some, if_neg zb1, if_neg (by decide), if_neg (by decide), if_neg (by decide), if_neg (by decide), if_neg (by decide), if_pos rfl, lt0 h hi, Option.bind_some]
theorem te6 {e : EV} {s : FF} {n i j : Nat} (h : ER e s n) (hi : i < n) (hj : f_X0_nextFixed e 0 = some (nI j)) : f_X0_tell e (nI i) 6 = some (if pS s i = 0 then (if nI j ≤ nI i then 0 else 1) else 0) := by
  unfold f_X0_tell
  rw [hasN h hi, Option.bind_some, if_neg zb1, if_neg (by decide), if_neg (by decide), if_neg (by decide), if_neg (by decide), if_neg (by decide), if_neg (by decide)]
  unfold f_X0_inSection
  rw [wt0 h hi, Option.bind_some]
  by_cases hs : pS s i = 0
  · rw [if_pos hs, decide_eq_true hs, if_neg zb1, hj, Option.bind_some]
    by_cases hq : nI j ≤ nI i
    · rw [if_pos hq, if_pos hq, Option.bind_some, if_pos zb0]
    · rw [if_neg hq, if_neg hq, Option.bind_some, if_neg zb1]
  · rw [if_neg hs, decide_eq_false hs, if_pos zb0, Option.bind_some, if_pos zb0]
theorem qe {v : CV} {s : FF} {n i w : Nat} {b : Int32} (h : ER v.1.1 s n) (hi : i < n) (hw : w ≤ 6) (hb : f_X0_tell v.1.1 (nI i) (nI w) = some b) : fn_X6_element v (nI i) (nI w) = some b := by
  have hn := h.1
  unfold fn_X6_element
  rw [hasN h hi, Option.bind_some, if_neg zb1, if_neg (of_eq_false (neg_n (by omega))), if_pos (show nI w ≤ 6 from (nI_leI (a := w) (b := 6) (by omega) (by omega)).mpr hw), hb, Option.bind_some]
theorem qf {v : CV} {s : FF} {m i w : Nat} {b : Int32} (h : FR v.1.2.1 s m) (hi : i < m) (hw : w ≤ 2) (hb : s (70 + 3 * i + w) = b) : fn_X6_filler v (nI i) (nI w) = some b := by
  have hm := h.1
  obtain ⟨x, h1, -, h3⟩ := tellF2 (u := uM s) h hi hw
  have h3' : x = s (70 + 3 * i + w) := h3
  unfold fn_X6_filler
  rw [hasF h hi, Option.bind_some, if_neg zb1, if_neg (of_eq_false (neg_n (by omega))), if_pos (show nI w ≤ 2 from (nI_leI (a := w) (b := 2) (by omega) (by omega)).mpr hw), h1, Option.bind_some, h3', hb]
theorem ql {v : CV} {s : FF} {k i w : Nat} {b : Int32} (h : LR v.1.2.2.1 s k) (hi : i < k) (hw : w ≤ 2) (hb : s (100 + 3 * i + w) = b) : fn_X6_entry v (nI i) (nI w) = some b := by
  have hk := h.1
  have hh : f_X3_has v.1.2.2.1 (nI i) = some true := by
    rcases x3has h (nI i) with ⟨q, -⟩ | ⟨-, q | ⟨-, q⟩⟩
    · exact q
    · exact absurd q (of_eq_false (neg_n (by omega)))
    · exact absurd ((nI_leI (by omega) (by omega)).mp q) (by omega)
  unfold fn_X6_entry
  rw [hh, Option.bind_some, if_neg zb1, if_neg (of_eq_false (neg_n (by omega))), if_pos (show nI w ≤ 2 from (nI_leI (a := w) (b := 2) (by omega) (by omega)).mpr hw), tellL h hi hw, Option.bind_some, hb]
theorem qv {v : CV} {w : Nat} {b : Int32} (hw : w ≤ 13) (h : f_X2_tell v.1 (nI w) = some b) : fn_X6_value v (nI w) = some b := by
  unfold fn_X6_value
  rw [if_neg (of_eq_false (neg_n (by omega))), if_pos (show nI w ≤ 13 from (nI_leI (a := w) (b := 13) (by omega) (by omega)).mpr hw), h, Option.bind_some]
theorem BG_p {s : FF} {n a : Nat} (h : BG s n) (ha : a < n) : (0 ≤ pB s a) = (pB s a ≠ -1) := by
  rcases h a ha with q | ⟨b, b1, q⟩
  · rw [q]
    exact propext ⟨fun h => absurd h (by decide), fun h => absurd rfl h⟩
  · rw [q]
    refine propext ⟨fun _ h => ?_, fun _ => ?_⟩
    · have h1 := congrArg Int32.toInt h
      rw [nI_toInt (by omega), show (-1 : Int32).toInt = -1 from rfl] at h1
      omega
    · show nI 0 ≤ nI b
      rw [nI_leI (by omega) (by omega)]
      omega
/-- the class's count of fillers that wait -/
def pNf (s : FF) (m : Nat) : Nat := pF (fun a x => if pfS s a = 0 then x + 1 else x) m 0 0
theorem cw3 {f : FV} {s : FF} {m : Nat} (h : FR f s m) : f_X1_countThatWait f = some (nI (pNf s m)) := by
  have hm := h.1
  unfold f_X1_countThatWait
  have h1 := zlF' (f := s_X1_countThatWait_4 f) (fun a (x : Nat) => (nI x, nI a)) (fun x => (nI x, nI m)) (fun a x => if pfS s a = 0 then x + 1 else x) m
    (fun a x ha => by
      obtain ⟨-, e2, -⟩ := h.2.2.2 a ha
      by_cases hc : pfS s a = 0 <;> simp [s_X1_countThatWait_4, h.2.1, le_n (a := m) (b := a) (by omega) (by omega), show ¬ m ≤ a by omega, zin_n (i := a) (N := 10) (by omega) (by omega), cl_n (a := a) (by omega), e2, hc, nI_1])
    (fun x => by simp [s_X1_countThatWait_4, h.2.1]) m 0 0 4096 (by omega) (by omega)
  have h2 : zloop (s_X1_countThatWait_4 f) 4096 (0, 0) = some (nI (pNf s m), nI m) := h1
  rw [h2, Option.bind_some]
