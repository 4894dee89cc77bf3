/-! The pure part: a walk through the sets, one member at a time, meets every set. -/
def tz : Nat → Nat → Nat
  | 0, _ => 0
  | k + 1, n => if n % 2 = 1 then 0 else tz k (n / 2) + 1
theorem tz_j : ∀ n, n < 1024 → n ≠ 0 → f_J6_numberOfTrailingZeros_0f7a4 (nI n) = some (nI (tz 10 n)) := by decide +kernel
theorem tz_p : ∀ c, c < 10 → tz 10 (2 ^ c) = c := by decide +kernel
theorem tz_a : ∀ c, c < 10 → ∀ r, r < 2 ^ c → r ≠ 0 → tz 10 (2 ^ c + r) = tz 10 r := by decide +kernel
theorem tz_l : ∀ c, c < 11 → ∀ r, r < 2 ^ c → r ≠ 0 → tz 10 r < c := by decide +kernel
/-- x is a part of W -/
def pSub (x W : Nat) : Prop := ∀ i : Nat, x.testBit i = true → W.testBit i = true
theorem pSub_0 (W : Nat) : pSub 0 W := fun i h => by simp at h
theorem pSub_xor {x y W : Nat} (hx : pSub x W) (hy : pSub y W) : pSub (x ^^^ y) W := fun i h => by
  rw [Nat.testBit_xor] at h
  cases hxi : x.testBit i with
  | true => exact hx i hxi
  | false => rw [hxi, Bool.false_xor] at h; exact hy i h
/-- the members e 0, .., e (c - 1) together -/
def pU (e : Nat → Nat) : Nat → Nat
  | 0 => 0
  | c + 1 => pU e c ||| 2 ^ e c
/-- the set after t steps -/
def pG (e : Nat → Nat) : Nat → Nat
  | 0 => 0
  | t + 1 => pG e t ^^^ 2 ^ e (tz 10 (t + 1))
theorem pU_sub (e : Nat → Nat) (c : Nat) : pSub (pU e c) (pU e (c + 1)) := fun i h => by
  show (pU e c ||| 2 ^ e c).testBit i = true
  rw [Nat.testBit_or, h, Bool.true_or]
theorem pU_new (e : Nat → Nat) (c : Nat) : pSub (2 ^ e c) (pU e (c + 1)) := fun i h => by
  show (pU e c ||| 2 ^ e c).testBit i = true
  rw [Nat.testBit_or, h, Bool.or_true]
theorem pSub_tr {x y z : Nat} (h : pSub x y) (h2 : pSub y z) : pSub x z := fun i hi => h2 i (h i hi)
theorem pG_half (e : Nat → Nat) {c : Nat} (hc : c < 10) : ∀ r : Nat, r < 2 ^ c → pG e (2 ^ c + r) = pG e (2 ^ c) ^^^ pG e r := by
  intro r
  induction r with
  | zero => intro _; show pG e (2 ^ c) = pG e (2 ^ c) ^^^ 0; rw [Nat.xor_zero]
  | succ r ih =>
    intro hr
    show pG e (2 ^ c + r) ^^^ 2 ^ e (tz 10 (2 ^ c + (r + 1))) = pG e (2 ^ c) ^^^ (pG e r ^^^ 2 ^ e (tz 10 (r + 1)))
    rw [ih (by omega), tz_a c hc (r + 1) hr (by omega), Nat.xor_assoc]
theorem pG_top (e : Nat → Nat) {c : Nat} (hc : c < 10) : pG e (2 ^ c) = pG e (2 ^ c - 1) ^^^ 2 ^ e c := by
  have h1 : 2 ^ c = (2 ^ c - 1) + 1 := by have := Nat.two_pow_pos c; omega
  have h2 : pG e (2 ^ c) = pG e ((2 ^ c - 1) + 1) := congrArg _ h1
  rw [h2]
  show pG e (2 ^ c - 1) ^^^ 2 ^ e (tz 10 ((2 ^ c - 1) + 1)) = _
  rw [← h1, tz_p c hc]
theorem pG_all (e : Nat → Nat) : ∀ c : Nat, c ≤ 10 → (∀ k : Nat, k < c → (pU e k).testBit (e k) = false) → (∀ t : Nat, t < 2 ^ c → pSub (pG e t) (pU e c)) ∧ ∀ x : Nat, pSub x (pU e c) → ∃ t : Nat, t < 2 ^ c ∧ pG e t = x := by
  intro c
  induction c with
  | zero =>
    intro _ _
    refine ⟨fun t ht => ?_, fun x hx => ⟨0, by decide, ?_⟩⟩
    · obtain rfl : t = 0 := by simpa using ht
      exact pSub_0 _
    · apply Nat.eq_of_testBit_eq
      intro i
      cases hxi : x.testBit i with
      | false => simp [pG]
      | true => have := hx i hxi; simp [pU] at this
  | succ c ih =>
    intro hc hd
    obtain ⟨h1, h2⟩ := ih (by omega) (fun k hk => hd k (by omega))
    have hpos := Nat.two_pow_pos c
    have htop : pSub (pG e (2 ^ c)) (pU e (c + 1)) := by
      rw [pG_top e (by omega)]
      exact pSub_xor (pSub_tr (h1 _ (by omega)) (pU_sub e c)) (pU_new e c)
    refine ⟨fun t ht => ?_, fun x hx => ?_⟩
    · by_cases hl : t < 2 ^ c
      · exact pSub_tr (h1 t hl) (pU_sub e c)
      · obtain ⟨r, rfl⟩ : ∃ r, t = 2 ^ c + r := ⟨t - 2 ^ c, by omega⟩
        rw [Nat.pow_succ] at ht
        rw [pG_half e (by omega) r (by omega)]
        exact pSub_xor htop (pSub_tr (h1 r (by omega)) (pU_sub e c))
    · have hu : ∀ i, (pU e (c + 1)).testBit i = ((pU e c).testBit i || (2 ^ e c).testBit i) := fun i => by
        show (pU e c ||| 2 ^ e c).testBit i = _
        rw [Nat.testBit_or]
      cases hb : x.testBit (e c) with
      | false =>
        obtain ⟨t, ht, hx2⟩ := h2 x (fun i hi => by
          have h3 := hx i hi
          rw [hu, Nat.testBit_two_pow] at h3
          by_cases hie : e c = i
          · subst hie; rw [hb] at hi; cases hi
          · simpa [hie] using h3)
        exact ⟨t, by rw [Nat.pow_succ]; omega, hx2⟩
      | true =>
        obtain ⟨r, hr, hy⟩ := h2 (x ^^^ pG e (2 ^ c)) (fun i hi => by
          rw [pG_top e (by omega), Nat.testBit_xor, Nat.testBit_xor, Nat.testBit_two_pow] at hi
          have hdc := hd c (by omega)
          by_cases hie : e c = i
          · subst hie
            have h5 : (pG e (2 ^ c - 1)).testBit (e c) = false := by
              cases h6 : (pG e (2 ^ c - 1)).testBit (e c) with
              | false => rfl
              | true => have := h1 _ (by omega) _ h6; rw [hdc] at this; cases this
            rw [hb, h5] at hi
            simp at hi
          · cases h6 : (pG e (2 ^ c - 1)).testBit i with
            | true => exact h1 _ (by omega) _ h6
            | false =>
              rw [h6] at hi
              have hxi : x.testBit i = true := by simpa [hie] using hi
              have h3 := hx i hxi
              rw [hu, Nat.testBit_two_pow] at h3
              simpa [hie] using h3)
        refine ⟨2 ^ c + r, by rw [Nat.pow_succ]; omega, ?_⟩
        rw [pG_half e (by omega) r hr, hy, Nat.xor_comm x, ← Nat.xor_assoc, Nat.xor_self, Nat.zero_xor]
