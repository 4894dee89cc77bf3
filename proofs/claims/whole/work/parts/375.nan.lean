theorem zlc (x : Int64) : lg_cmp x x = 0 := (lg_cmp_eq x x).mpr rfl
theorem znan_E (n : Nat) (h : 9218868437227405312 < n % 9223372036854775808) : n / 4503599627370496 % 2048 = 2047 ∧ n % 4503599627370496 ≠ 0 := by
  omega
theorem znan_dec {a : UInt64} (h : isNaN64 a = true) : FP.Core.decode FP.Core.b64 a.toNat = .nan := by
  have h1 : 0x7ff0000000000000 < a.toNat &&& 0x7fffffffffffffff := by
    simp only [isNaN64, decide_eq_true_eq, gt_iff_lt, UInt64.lt_iff_toNat_lt, UInt64.toNat_and] at h
    exact h
  have h2 : a.toNat &&& 0x7fffffffffffffff = a.toNat % 2 ^ 63 := Nat.and_two_pow_sub_one_eq_mod a.toNat 63
  rw [h2] at h1
  obtain ⟨e1, e2⟩ := znan_E a.toNat h1
  have g1 : FP.Core.fieldE FP.Core.b64 a.toNat = FP.Core.b64.exps - 1 := e1
  have g2 : ¬ FP.Core.fieldT FP.Core.b64 a.toNat = 0 := e2
  unfold FP.Core.decode
  rw [if_pos g1, if_neg g2]
theorem znan_cmp {a b : UInt64} (h : isNaN64 a = true) : FP.dcmp a b = none := by
  show FP.Core.order (FP.Core.decode FP.Core.b64 a.toNat) (FP.Core.decode FP.Core.b64 b.toNat) = none
  rw [znan_dec h]
  rfl
/-- what the law's three comparisons of two sounding numbers say -/
theorem zsnd_cmp {n q : Int32} {x y : UInt64} (hx : zsnd n q x) (hy : zsnd n q y) (h : ¬ Op.cmpValue (FP.dcmp x y) CmpOp.l = 0) : ¬ Op.cmpValue (FP.dcmp x x) CmpOp.l = 0 ∧ ¬ Op.cmpValue (FP.dcmp y y) CmpOp.l = 0 := by
  have key : x = y ∨ (isNaN64 x = true ∧ isNaN64 y = true) := by
    unfold zsnd at hx hy
    by_cases h0 : n = 0
    · rw [if_pos h0] at hx hy
      exact Or.inl (hx.trans hy.symm)
    · rw [if_neg h0] at hx hy
      simp only [alike64, Bool.or_eq_true, decide_eq_true_eq, Bool.and_eq_true] at hx hy
      rcases hx with hx | ⟨hx, hz⟩
      · rcases hy with hy | ⟨hy, hz⟩
        · exact Or.inl (hx.trans hy.symm)
        · exact Or.inr ⟨by rw [hx]; exact hz, hy⟩
      · rcases hy with hy | ⟨hy, -⟩
        · exact Or.inr ⟨hx, by rw [hy]; exact hz⟩
        · exact Or.inr ⟨hx, hy⟩
  rcases key with rfl | ⟨h1, h2⟩
  · exact ⟨h, h⟩
  · rw [znan_cmp h1, znan_cmp h2]
    exact ⟨by decide, by decide⟩
