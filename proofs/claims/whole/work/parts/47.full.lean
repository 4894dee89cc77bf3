/-! The pure part: the next full sum; the least member. -/
theorem low7 : ∀ B, B < 1024 → B ≠ 0 → f_X7_lowestOf (nI B) = some (nI (tz 10 B)) := by decide +kernel
theorem low_b : ∀ B, B < 1024 → B ≠ 0 → B.testBit (tz 10 B) = true ∧ tz 10 B < 10 := by decide +kernel
theorem low_0 : f_J6_numberOfTrailingZeros_0f7a4 (nI 0) = some 32 := by decide +kernel
theorem pWm_b (s : FF) : ∀ (m i : Nat), (pWm s m).testBit i = true → i < m ∧ pfS s i = 0 := by
  intro m
  induction m with
  | zero => intro i h; simp [pWm, pF] at h
  | succ m ih =>
    intro i h
    rw [pWm_s] at h
    by_cases hc : pfS s m = 0
    · rw [if_pos hc, Nat.testBit_or, Nat.testBit_two_pow] at h
      by_cases hi : m = i
      · subst hi; exact ⟨by omega, hc⟩
      · simp [hi] at h
        obtain ⟨h1, h2⟩ := ih i h
        exact ⟨by omega, h2⟩
    · rw [if_neg hc] at h
      obtain ⟨h1, h2⟩ := ih i h
      exact ⟨by omega, h2⟩
/-- r is the least sum above a limit, of the sets of S; -1: none -/
def pFu (s : FF) (m : Nat) (lim r : Int32) (S : Nat → Prop) : Prop := (r = -1 ∧ ∀ x : Nat, S x → (pLen s m x).toInt ≤ lim.toInt) ∨ (∃ x : Nat, S x ∧ r = pLen s m x ∧ lim.toInt < (pLen s m x).toInt ∧ ∀ y : Nat, S y → lim.toInt < (pLen s m y).toInt → r.toInt ≤ (pLen s m y).toInt)
theorem pFu_u {s : FF} {m : Nat} {lim r r' : Int32} {S : Nat → Prop} (h : pFu s m lim r S) (h' : pFu s m lim r' S) : r = r' := by
  rcases h with ⟨rfl, h1⟩ | ⟨x, h1, rfl, h2, h3⟩ <;> rcases h' with ⟨rfl, k1⟩ | ⟨y, k1, rfl, k2, k3⟩
  · rfl
  · have := h1 y k1; omega
  · have := k1 x h1; omega
  · have a1 := h3 y k1 k2
    have a2 := k3 x h1 h2
    exact Int32.toInt_inj.mp (by omega)
theorem pFu_n {s : FF} {m : Nat} {lim r : Int32} {S S' : Nat → Prop} (h0 : 0 ≤ lim.toInt) (h : pFu s m lim r S) {N : Nat} (hS : ∀ x : Nat, S' x ↔ (S x ∨ x = N)) : pFu s m lim (if (pLen s m N).toInt ≤ lim.toInt then r else if r = -1 then pLen s m N else if r.toInt ≤ (pLen s m N).toInt then r else pLen s m N) S' := by
  by_cases h1 : (pLen s m N).toInt ≤ lim.toInt
  · rw [if_pos h1]
    rcases h with ⟨rfl, h2⟩ | ⟨x, h2, rfl, h3, h4⟩
    · exact Or.inl ⟨rfl, fun x hx => ((hS x).mp hx).elim (h2 x) (fun q => q ▸ h1)⟩
    · exact Or.inr ⟨x, (hS x).mpr (Or.inl h2), rfl, h3, fun y hy hl => ((hS y).mp hy).elim (fun q => h4 y q hl) (fun q => by subst q; omega)⟩
  · rw [if_neg h1]
    rcases h with ⟨rfl, h2⟩ | ⟨x, h2, rfl, h3, h4⟩
    · rw [if_pos rfl]
      exact Or.inr ⟨N, (hS N).mpr (Or.inr rfl), rfl, by omega, fun y hy hl => ((hS y).mp hy).elim (fun q => by have := h2 y q; omega) (fun q => by subst q; omega)⟩
    · have hne : ¬ pLen s m x = -1 := fun q => by
        rw [q] at h3
        have h5 : (-1 : Int32).toInt = -1 := rfl
        omega
      rw [if_neg hne]
      by_cases h6 : (pLen s m x).toInt ≤ (pLen s m N).toInt
      · rw [if_pos h6]
        exact Or.inr ⟨x, (hS x).mpr (Or.inl h2), rfl, h3, fun y hy hl => ((hS y).mp hy).elim (fun q => h4 y q hl) (fun q => by subst q; omega)⟩
      · rw [if_neg h6]
        exact Or.inr ⟨N, (hS N).mpr (Or.inr rfl), rfl, by omega, fun y hy hl => ((hS y).mp hy).elim (fun q => by have := h4 y q hl; omega) (fun q => by subst q; omega)⟩
theorem pFu_c {s : FF} {m : Nat} {lim r : Int32} {S S' : Nat → Prop} (h : pFu s m lim r S) (hS : ∀ x : Nat, S' x ↔ S x) : pFu s m lim r S' := by
  have : S' = S := funext (fun x => propext (hS x))
  rw [this]
  exact h
theorem fu1 {f : FV} {s : FF} {m : Nat} (h : FR f s m) {lim : Int32} (h0 : 0 ≤ lim.toInt) : ∃ (r : Int32) (w : WV), f_X1_leastSumAbove f lim = some (r, (f.1, f.2.1, f.2.2.1, f.2.2.2.1, w)) ∧ pFu s m lim r (fun x => pSub x (pWm s m)) := by
  have hm := h.1
  obtain ⟨c, e, fl, ln, hc, hb, he, hd, hU⟩ := be4 h f.2.2.2.2
  obtain ⟨hg1, hg2⟩ := pG_all e c (by omega) hd
  rw [hU] at hg1 hg2
  have hW : pWm s m < 1024 := Nat.lt_of_lt_of_le (pWm_lt s m) (Nat.pow_le_pow_right (n := 2) (by decide) hm)
  have hp : 2 ^ c ≤ 1024 := (show 2 ^ c ≤ 2 ^ 10 from Nat.pow_le_pow_right (n := 2) (by decide) (Nat.le_trans hc hm))
  obtain ⟨q, h1, r, T, w, rfl, h2⟩ := zl1 (f := s_X1_leastSumAbove_14 (f.1, f.2.1, f.2.2.1, f.2.2.2.1, (fl, ln, nI c, 0, 0, 0)) lim (nI (2 ^ c)))
    (fun k x => ∃ (T : Nat) (r : Int32), k = 2 ^ c - (T + 1) ∧ T + 1 ≤ 2 ^ c ∧ x = (r, nI (T + 1), (fl, ln, nI c, nI (pG e T), pLen s m (pG e T), nI (pPop (pG e T)))) ∧ pFu s m lim r (fun x => ∃ t : Nat, t ≤ T ∧ pG e t = x))
    (fun q => ∃ (r : Int32) (T : Nat) (w : WV), q = (r, nI T, w) ∧ pFu s m lim r (fun x => pSub x (pWm s m)))
    (by
      rintro k x ⟨T, r, rfl, hT, rfl, hbe⟩
      by_cases hl : 2 ^ c ≤ T + 1
      · refine Or.inl ⟨_, by
          unfold s_X1_leastSumAbove_14
          rw [if_pos (by rw [nI_leI (by omega) (by omega)]; exact hl)], r, T + 1, _, rfl, pFu_c hbe (fun x => ⟨fun hx => ?_, fun ⟨t, ht, hx⟩ => hx ▸ hg1 t (by omega)⟩)⟩
        obtain ⟨t, ht, hx⟩ := hg2 x hx
        exact ⟨t, by omega, hx⟩
      · have hlt : T + 1 < 2 ^ c := by omega
        have hS : pG e T < 1024 := pSub_lt (hg1 T (by omega)) hW
        have hgo := go4 (s := s) (m := m) (c := c) (e := e) hm (by omega) he (t := T) (S := pG e T) hlt hS
        have hgo' : f_X4_go (fl, ln, nI c, nI (pG e T), pLen s m (pG e T), nI (pPop (pG e T))) (nI (T + 1)) = some (fl, ln, nI c, nI (pG e (T + 1)), pLen s m (pG e (T + 1)), nI (pPop (pG e (T + 1)))) := hgo
        refine Or.inr ⟨2 ^ c - (T + 1 + 1), ((if (pLen s m (pG e (T + 1))).toInt ≤ lim.toInt then r else if r = -1 then pLen s m (pG e (T + 1)) else if r.toInt ≤ (pLen s m (pG e (T + 1))).toInt then r else pLen s m (pG e (T + 1))), nI (T + 1 + 1), (fl, ln, nI c, nI (pG e (T + 1)), pLen s m (pG e (T + 1)), nI (pPop (pG e (T + 1))))), ?_, by omega, T + 1, _, rfl, by omega, rfl, pFu_n h0 hbe (fun x => ⟨fun ⟨t, ht, hx⟩ => ?_, fun hx => ?_⟩)⟩
        · generalize pG e (T + 1) = N at *
          unfold s_X1_leastSumAbove_14
          rw [if_neg (by rw [nI_leI (by omega) (by omega)]; exact hl), hgo']
          simp only [Option.bind_some, Int32.le_iff_toInt_le, nI_1]
          repeat' split
          all_goals rfl
        · by_cases htT : t = T + 1
          · exact Or.inr (htT ▸ hx.symm)
          · exact Or.inl ⟨t, by omega, hx⟩
        · rcases hx with ⟨t, ht, hx⟩ | hx
          · exact ⟨t, by omega, hx⟩
          · exact ⟨T + 1, Nat.le_refl _, hx.symm⟩)
    4096 (2 ^ c - 1) (-1, nI 1, (fl, ln, nI c, nI 0, 0, nI 0)) (by omega) ⟨0, -1, by omega, Nat.two_pow_pos c, by simp [pLen_0, pG, pPop], Or.inl ⟨rfl, fun x ⟨t, ht, hx⟩ => by
      obtain rfl : t = 0 := by omega
      rw [← hx]
      show (pLen s m 0).toInt ≤ _
      rw [pLen_0]
      exact h0⟩⟩
  have h1' : zloop (s_X1_leastSumAbove_14 (f.1, f.2.1, f.2.2.1, f.2.2.2.1, (fl, ln, nI c, 0, 0, 0)) lim (nI (2 ^ c))) 4096 (-1, 1, (fl, ln, nI c, 0, 0, 0)) = some (r, nI T, w) := h1
  refine ⟨r, w, ?_, h2⟩
  unfold f_X1_leastSumAbove
  rw [hb]
  simp only [Option.bind_some]
  rw [h1']
  rfl
theorem fu7 {u : MV} {m : Nat} (hm : m ≤ 10) (h8 : u.1 8 = nI m) {lim : Int32} (h0 : 0 ≤ lim.toInt) : ∃ r : Int32, f_X7_fullAbove u lim = some r ∧ pFu u.1 m lim r (fun x => pSub x (pWm u.1 m)) := by
  have hW : pWm u.1 m < 1024 := Nat.lt_of_lt_of_le (pWm_lt u.1 m) (Nat.pow_le_pow_right (n := 2) (by decide) hm)
  have hwm := wm7 hm h8
  generalize pWm u.1 m = W at *
  obtain ⟨q, h1, r, X, rfl, h2⟩ := zl1 (f := s_X7_fullAbove_10 u lim (nI W))
    (fun k x => ∃ (X : Nat) (r : Int32), k = W + 1 - X ∧ X ≤ W + 1 ∧ 1 ≤ X ∧ x = (r, nI X) ∧ pFu u.1 m lim r (fun y => y < X ∧ pSub y W))
    (fun q => ∃ (r : Int32) (X : Nat), q = (r, nI X) ∧ pFu u.1 m lim r (fun x => pSub x W))
    (by
      rintro k x ⟨X, r, rfl, hX, hX1, rfl, hbe⟩
      by_cases hl : W < X
      · refine Or.inl ⟨_, by
          unfold s_X7_fullAbove_10
          rw [if_pos (by rw [nI_ltI (by omega) (by omega)]; exact hl)], r, X, rfl, pFu_c hbe (fun x => ⟨fun hx => ⟨?_, hx⟩, fun hx => hx.2⟩)⟩
        have := pSub_le hx
        omega
      · by_cases hs : pSub X W
        · refine Or.inr ⟨W + 1 - (X + 1), ((if (pLen u.1 m X).toInt ≤ lim.toInt then r else if r = -1 then pLen u.1 m X else if r.toInt ≤ (pLen u.1 m X).toInt then r else pLen u.1 m X), nI (X + 1)), ?_, by omega, X + 1, _, rfl, by omega, by omega, rfl, pFu_n h0 hbe (fun x => ⟨fun hx => ?_, fun hx => ?_⟩)⟩
          · unfold s_X7_fullAbove_10
            rw [if_neg (by rw [nI_ltI (by omega) (by omega)]; exact hl), if_pos (by rw [pSub_d (by omega)]; exact hs)]
            simp only [Option.bind_some, len7 hm h8 (show X < 2 ^ 31 by omega), Int32.le_iff_toInt_le, nI_1]
            repeat' split
            all_goals rfl
          · by_cases hxX : x = X
            · exact Or.inr hxX
            · exact Or.inl ⟨by omega, hx.2⟩
          · rcases hx with hx | rfl
            · exact ⟨by omega, hx.2⟩
            · exact ⟨by omega, hs⟩
        · refine Or.inr ⟨W + 1 - (X + 1), (r, nI (X + 1)), ?_, by omega, X + 1, r, rfl, by omega, by omega, rfl, pFu_c hbe (fun x => ⟨fun hx => ⟨?_, hx.2⟩, fun hx => ⟨by omega, hx.2⟩⟩)⟩
          · unfold s_X7_fullAbove_10
            rw [if_neg (by rw [nI_ltI (by omega) (by omega)]; exact hl), if_neg (by rw [pSub_d (by omega)]; exact hs), if_pos (by rw [Int32.le_iff_toInt_le]; exact h0), nI_1]
          · by_cases hxX : x = X
            · subst hxX; exact absurd hx.2 hs
            · omega)
    4096 W (-1, nI 1) (by omega) ⟨1, -1, by omega, by omega, by omega, rfl, Or.inl ⟨rfl, fun x hx => by
      obtain rfl : x = 0 := by omega
      rw [pLen_0]
      exact h0⟩⟩
  refine ⟨r, ?_, h2⟩
  have h1' : zloop (s_X7_fullAbove_10 u lim (nI W)) 4096 (-1, 1) = some (r, nI X) := h1
  unfold f_X7_fullAbove
  rw [hwm]
  simp only [Option.bind_some]
  rw [h1']
  rfl
theorem full2 {f : FV} {u : MV} {m : Nat} (h : FR f u.1 m) {lim : Int32} (h0 : 0 ≤ lim.toInt) : ∃ (r : Int32) (w : WV), f_X1_leastSumAbove f lim = some (r, (f.1, f.2.1, f.2.2.1, f.2.2.2.1, w)) ∧ f_X7_fullAbove u lim = some r := by
  obtain ⟨r, w, h1, h2⟩ := fu1 h h0
  obtain ⟨r', h3, h4⟩ := fu7 h.1 h.2.2.1 h0
  obtain rfl := pFu_u h2 h4
  exact ⟨r, w, h1, h3⟩
