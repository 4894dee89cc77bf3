/-! A share of seconds is a number. -/
theorem zb_e : FP.Core.b64.exps = 2048 := rfl
theorem zb_ta : FP.Core.b64.tails = 4503599627370496 := rfl
theorem zb_qn : FP.Core.b64.qmin = -1074 := by decide
theorem zb_qx : FP.Core.b64.qmax = 971 := by decide
/-- a datum that rounding gives -/
def OKd : FP.Core.Datum → Prop
  | .nan => False
  | .inf _ => True
  | .fin _ c q => c < 9007199254740992 ∧ -1074 ≤ q ∧ q ≤ 971
theorem zd_enc {d : FP.Core.Datum} (h : OKd d) : FP.Core.encode FP.Core.b64 d < 18446744073709551616 ∧ FP.Core.encode FP.Core.b64 d % 9223372036854775808 ≤ 9218868437227405312 := by
  have hb : ∀ s : Bool, s.toNat ≤ 1 := fun s => by cases s <;> decide
  cases d with
  | nan => exact absurd h (fun q => q)
  | inf s =>
    have := hb s
    unfold FP.Core.encode FP.Core.assemble
    dsimp only
    rw [zb_e, zb_ta]
    omega
  | fin s c q =>
    have := hb s
    obtain ⟨h1, h2, h3⟩ := h
    unfold FP.Core.encode FP.Core.assemble
    dsimp only
    rw [zb_e, zb_ta, zb_qn]
    split <;> omega
theorem zd_bound {s : Bool} {c : Nat} {q : Int} (hc : c < 9007199254740992) (hq : -1074 ≤ q) : OKd (FP.Core.bound FP.Core.b64 s c q) := by
  unfold FP.Core.bound
  rw [zb_qx]
  split
  · exact ⟨hc, hq, by omega⟩
  · trivial
theorem zd_round (s : Bool) (num den : Nat) (e : Int) : OKd (FP.Core.roundRatio FP.Core.b64 s num den e) := by
  unfold FP.Core.roundRatio
  split
  · rw [zb_qn]
    exact ⟨by omega, by omega, by omega⟩
  · have hq : -1074 ≤ FP.Core.quantum FP.Core.b64 num den e := by
      unfold FP.Core.quantum
      rw [zb_qn]
      exact Int.le_max_left _ _
    generalize FP.Core.quantum FP.Core.b64 num den e = q at hq
    unfold FP.Core.roundAt FP.Core.settle
    have hp : (2 : Nat) ^ FP.Core.b64.p = 9007199254740992 := rfl
    rw [hp]
    split
    · rename_i hc
      exact zd_bound hc hq
    · rw [zb_ta]
      exact zd_bound (by omega) (by omega)
theorem zd_nat {m : Nat} (h : m < 18446744073709551616) : (UInt64.ofNat m).toNat = m := Nat.mod_eq_of_lt h
theorem zd_E (m : Nat) (h : m % 9223372036854775808 ≤ 9218868437227405312) (h2 : m / 4503599627370496 % 2048 = 2047) : m % 4503599627370496 = 0 := by
  omega
theorem zd_dec {m : Nat} (h : m % 9223372036854775808 ≤ 9218868437227405312) : FP.Core.decode FP.Core.b64 m ≠ .nan := by
  unfold FP.Core.decode
  split
  · rename_i hq
    have h1 : m / 4503599627370496 % 2048 = 2047 := hq
    have h2 : FP.Core.fieldT FP.Core.b64 m = 0 := zd_E m h h1
    rw [if_pos h2]
    exact fun q => FP.Core.Datum.noConfusion q
  · split
    · exact fun q => FP.Core.Datum.noConfusion q
    · exact fun q => FP.Core.Datum.noConfusion q
theorem zd_i2d (x : Int32) : FP.Core.decode FP.Core.b64 (FP.i2d x).toNat ≠ .nan := by
  have h : OKd (FP.Core.round FP.Core.b64 (FP.Core.ofInt x.toInt)) := zd_round _ _ 1 0
  obtain ⟨h1, h2⟩ := zd_enc h
  show FP.Core.decode FP.Core.b64 (UInt64.ofNat (FP.Core.encode FP.Core.b64 (FP.Core.round FP.Core.b64 (FP.Core.ofInt x.toInt)))).toNat ≠ .nan
  rw [zd_nat h1]
  exact zd_dec h2
theorem zd_lead {N : Nat} (h : 1 ≤ N) : FP.Core.leading N 1 = (N.log2 : Int) := by
  have h1 : (1 : Nat).log2 = 0 := by decide
  have h2 : 2 ^ N.log2 ≤ N := Nat.log2_self_le (by omega)
  unfold FP.Core.leading
  rw [h1]
  have e1 : (N.log2 : Int) - ((0 : Nat) : Int) = (N.log2 : Int) := by omega
  simp only [e1]
  have e2 : (N.log2 : Int).toNat = N.log2 := by omega
  have e3 : (-(N.log2 : Int)).toNat = 0 := by omega
  rw [e2, e3, if_pos (by rw [Nat.one_mul, Nat.pow_zero, Nat.mul_one]; exact h2)]
theorem zd_den {N : Nat} (h1 : 1 ≤ N) (h2 : N ≤ 90000) : ∃ (t : Bool) (d : Nat) (r : Int), FP.Core.decode FP.Core.b64 (FP.i2d (nI N)).toNat = .fin t d r ∧ d ≠ 0 := by
  obtain ⟨K, hK⟩ : ∃ K : Nat, K = N.log2 := ⟨_, rfl⟩
  have k1 : 2 ^ K ≤ N := by rw [hK]; exact Nat.log2_self_le (by omega)
  have k2 : N < 2 ^ (K + 1) := by rw [hK]; exact Nat.lt_log2_self
  have k3 : K ≤ 16 := by
    apply Nat.le_of_lt_succ
    apply (Nat.pow_lt_pow_iff_right (a := 2) (by decide)).mp
    exact Nat.lt_of_le_of_lt k1 (Nat.lt_of_le_of_lt h2 (by decide))
  have hq : FP.Core.quantum FP.Core.b64 N 1 0 = (K : Int) - 52 := by
    unfold FP.Core.quantum
    rw [zd_lead h1, ← hK, zb_qn]
    have hp : ((FP.Core.b64.p : Nat) : Int) = 53 := rfl
    rw [hp, Int.max_def, if_pos (by omega)]
    omega
  obtain ⟨c, hc⟩ : ∃ c : Nat, c = N * 2 ^ (52 - K) := ⟨_, rfl⟩
  have c1 : 4503599627370496 ≤ c := by
    have : 2 ^ K * 2 ^ (52 - K) ≤ N * 2 ^ (52 - K) := Nat.mul_le_mul_right _ k1
    rw [← Nat.pow_add, show K + (52 - K) = 52 by omega] at this
    rw [hc]
    exact this
  have c2 : c < 9007199254740992 := by
    have : N * 2 ^ (52 - K) < 2 ^ (K + 1) * 2 ^ (52 - K) := Nat.mul_lt_mul_of_pos_right k2 (Nat.two_pow_pos _)
    rw [← Nat.pow_add, show K + 1 + (52 - K) = 53 by omega] at this
    rw [hc]
    exact this
  have hr : FP.Core.round FP.Core.b64 (FP.Core.ofInt (nI N).toInt) = .fin false c ((K : Int) - 52) := by
    rw [nI_toInt (by omega)]
    have hz : FP.Core.ofInt (N : Int) = .fin false N 0 := by
      unfold FP.Core.ofInt
      rw [decide_eq_false (by omega), Int.natAbs_natCast]
    rw [hz]
    show FP.Core.roundRatio FP.Core.b64 false N 1 0 = _
    unfold FP.Core.roundRatio
    rw [if_neg (by omega), hq]
    unfold FP.Core.roundAt FP.Core.unitsNum FP.Core.unitsDen
    have e1 : ((0 : Int) - ((K : Int) - 52)).toNat = 52 - K := by omega
    have e2 : ((K : Int) - 52 - 0).toNat = 0 := by omega
    rw [e1, e2, ← hc]
    have hn : FP.Core.nearest c (1 * 2 ^ 0) = c := by
      unfold FP.Core.nearest
      rw [Nat.pow_zero, Nat.mul_one, Nat.mod_one, if_pos (by omega), Nat.div_one]
    rw [hn]
    unfold FP.Core.settle FP.Core.bound
    have hp : (2 : Nat) ^ FP.Core.b64.p = 9007199254740992 := rfl
    rw [hp, if_pos c2, zb_qx, if_pos (by omega)]
  have hm : (FP.i2d (nI N)).toNat = (K + 1023) * 4503599627370496 + (c - 4503599627370496) := by
    show (UInt64.ofNat (FP.Core.encode FP.Core.b64 (FP.Core.round FP.Core.b64 (FP.Core.ofInt (nI N).toInt)))).toNat = _
    rw [hr]
    have he : FP.Core.encode FP.Core.b64 (.fin false c ((K : Int) - 52)) = (K + 1023) * 4503599627370496 + (c - 4503599627370496) := by
      unfold FP.Core.encode FP.Core.assemble
      dsimp only
      rw [zb_e, zb_ta, zb_qn, if_neg (by omega)]
      have e1 : ((K : Int) - 52 - (-1074)).toNat = K + 1022 := by omega
      rw [e1]
      show (0 * 2048 + (K + 1022 + 1)) * 4503599627370496 + (c - 4503599627370496) = _
      omega
    rw [he, zd_nat (by omega)]
  rw [hm]
  generalize hM : (K + 1023) * 4503599627370496 + (c - 4503599627370496) = M
  have hE : FP.Core.fieldE FP.Core.b64 M = K + 1023 := by
    show M / 4503599627370496 % 2048 = K + 1023
    omega
  unfold FP.Core.decode
  rw [hE, zb_e, if_neg (by omega), if_neg (by omega)]
  refine ⟨_, _, _, rfl, ?_⟩
  rw [zb_ta]
  omega
theorem zd_quo {a b : FP.Core.Datum} (ha : a ≠ .nan) (hb : ∃ (t : Bool) (d : Nat) (r : Int), b = .fin t d r ∧ d ≠ 0) : OKd (FP.Core.quotient FP.Core.b64 a b) := by
  obtain ⟨t, d, r, rfl, hd⟩ := hb
  cases a with
  | nan => exact absurd rfl ha
  | inf s => trivial
  | fin s c q =>
    show OKd (if d = 0 then (if c = 0 then .nan else .inf (s != t)) else FP.Core.roundRatio FP.Core.b64 (s != t) c d (q - r))
    rw [if_neg hd]
    exact zd_round _ _ _ _
theorem zn_of {m : Nat} (h1 : m < 18446744073709551616) (h2 : m % 9223372036854775808 ≤ 9218868437227405312) : zn64 (UInt64.ofNat m) = true := by
  unfold zn64
  apply decide_eq_true
  rw [UInt64.le_iff_toNat_le, UInt64.toNat_and, zd_nat h1]
  have h3 : m &&& 0x7fffffffffffffff = m % 2 ^ 63 := Nat.and_two_pow_sub_one_eq_mod m 63
  show m &&& 0x7fffffffffffffff ≤ 9218868437227405312
  rw [h3]
  exact h2
/-- the share is a number -/
theorem zn_div (x : Int32) {N : Nat} (h1 : 1 ≤ N) (h2 : N ≤ 90000) : zn64 (FP.ddiv (FP.i2d x) (FP.i2d (nI N))) = true := by
  have h := zd_quo (zd_i2d x) (zd_den h1 h2)
  obtain ⟨q1, q2⟩ := zd_enc h
  exact zn_of q1 q2
theorem zn_cmp {x : UInt64} (h : zn64 x = true) : Op.cmpValue (FP.dcmp x x) CmpOp.l = 0 := by
  have h1 : x &&& 0x7fffffffffffffff ≤ 0x7ff0000000000000 := of_decide_eq_true (p := x &&& 0x7fffffffffffffff ≤ 0x7ff0000000000000) h
  rw [UInt64.le_iff_toNat_le, UInt64.toNat_and] at h1
  have h3 : x.toNat &&& 0x7fffffffffffffff = x.toNat % 2 ^ 63 := Nat.and_two_pow_sub_one_eq_mod x.toNat 63
  have h4 : x.toNat % 9223372036854775808 ≤ 9218868437227405312 := by
    have h5 : x.toNat &&& 0x7fffffffffffffff ≤ 9218868437227405312 := h1
    rw [h3] at h5
    exact h5
  have h5 := zd_dec h4
  have h6 : FP.dcmp x x = some .eq := by
    show FP.Core.order (FP.Core.decode FP.Core.b64 x.toNat) (FP.Core.decode FP.Core.b64 x.toNat) = some .eq
    have hc : ∀ a : Int, compare a a = .eq := fun a => by simp [compare, compareOfLessAndEq]
    cases hd : FP.Core.decode FP.Core.b64 x.toNat with
    | nan => exact absurd hd h5
    | inf s => exact congrArg some (hc _)
    | fin s c q => exact congrArg some (hc _)
  rw [h6]
  rfl
theorem zn_one : zn64 FP.dconst1 = true := by decide +kernel
