/-! sums by the number of workers reckoned -/
theorem heardS_up {lf : Nat → Nat → Int32} {wk : Nat → Int32} {y k i : Nat} (hk : k < 2 ^ i) : heardS lf wk y true (2 ^ i + k) (i + 1) = heardS lf wk y true k i + (if wk (4 * i) = nI y then 0 else lf i y) := by
  have hb : ∀ n, n ≤ i → heardS lf wk y true (2 ^ i + k) n = heardS lf wk y true k n := fun n => by
    induction n with
    | zero => exact fun _ => rfl
    | succ n ih =>
      intro hn
      unfold heardS
      rw [ih (by omega), Nat.testBit_two_pow_add_gt (by omega)]
  have ht : (2 ^ i + k).testBit i = true := by
    rw [Nat.testBit_two_pow_add_eq, Nat.testBit_lt_two_pow hk]
    rfl
  show (if (2 ^ i + k).testBit i = true ∧ ¬ (true = true ∧ wk (4 * i) = nI y) then heardS lf wk y true (2 ^ i + k) i + lf i y else heardS lf wk y true (2 ^ i + k) i) = _
  rw [hb i (Nat.le_refl _), ht]
  by_cases c : wk (4 * i) = nI y
  · rw [if_neg (fun z => z.2 ⟨rfl, c⟩), if_pos c, Int32.add_zero]
  · rw [if_pos ⟨rfl, fun z => c z.2⟩, if_neg c]
theorem heardS_high {lf : Nat → Nat → Int32} {wk : Nat → Int32} {y k i : Nat} (hk : k < 2 ^ i) : heardS lf wk y true k (i + 1) = heardS lf wk y true k i := by
  show (if k.testBit i = true ∧ ¬ (true = true ∧ wk (4 * i) = nI y) then heardS lf wk y true k i + lf i y else heardS lf wk y true k i) = _
  rw [Nat.testBit_lt_two_pow hk, if_neg (fun z => absurd z.1 (by decide))]
