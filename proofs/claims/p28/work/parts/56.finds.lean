/-! The pure part: the hour is over. -/
theorem ovr2 {h : HV} {s : FF} {n m k : Nat} (h0 : HR0 h s n m) (hin : pIn s n m k) (hair : s 2 = 0) : HR0 (h.1, h.2.1, h.2.2.1, h.2.2.2.1, true, h.2.2.2.2.2) (upd s 1 1) n m ∧ pIn (upd s 1 1) n m k := by
  obtain ⟨r1, r2, r3, r4, r5, r6, r7, r8⟩ := h0
  have hn := r1.1
  have hm := r2.1
  have hs : ∀ j : Nat, j ≠ 1 → upd s 1 1 j = s j := fun j hj => pk_un hj
  have hL : ∀ j : Nat, pL (upd s 1 1) j = pL s j := fun j => hs _ (by omega)
  have hT : ∀ j : Nat, pT (upd s 1 1) j = pT s j := fun j => hs _ (by omega)
  have hB : ∀ j : Nat, pB (upd s 1 1) j = pB s j := fun j => hs _ (by omega)
  have hS : ∀ j : Nat, pS (upd s 1 1) j = pS s j := fun j => hs _ (by omega)
  have hfL : ∀ j : Nat, pfL (upd s 1 1) j = pfL s j := fun j => hs _ (by omega)
  have hfS : ∀ j : Nat, pfS (upd s 1 1) j = pfS s j := fun j => hs _ (by omega)
  have hE : pCE (upd s 1 1) n = pCE s n := pC_cong n (fun j _ => by rw [hS j])
  have hF : pCF (upd s 1 1) m = pCF s m := pC_cong m (fun j _ => by rw [hfS j])
  have hTT : ∀ B : Nat, pCT (upd s 1 1) n B = pCT s n B := fun B => by
    unfold pCT
    rw [pC_cong n (fun j _ => by rw [hT j])]
  refine ⟨⟨ER_ag r1 (fun j _ _ _ => hs j (by omega)), FR_ag r2 (fun j _ _ => hs j (by omega)), r3.trans (hs 0 (by omega)).symm, pk_us.symm, r5.trans (hs 5 (by omega)).symm, r6.trans (pGr_cong (fun j _ => pLate_ag (hT j) (hB j))).symm, r7.trans (hs 6 (by omega)).symm, ?_⟩, ?_⟩
  · rw [hs 2 (by omega), hs 3 (by omega), hs 4 (by omega)]
    exact r8
  · obtain ⟨a1, a2, a3, sec, a4, a5, a6⟩ := hin
    refine ⟨fun j hj => ?_, fun j hj => by rw [hfL j]; exact a2 j hj, Or.inr pk_us, sec, by rw [hs 0 (by omega)]; exact a4, by rw [hE, hF]; exact a5, ?_⟩
    · rw [hL j, hT j, hS j, hB j, hE, hF, hs 2 (by omega), hs 3 (by omega)]
      exact a1 j hj
    · rw [hs 2 (by omega), hs 3 (by omega), hs 4 (by omega), hE, hF]
      simp only [hTT]
      exact a6
