/-- the two systems begin alike -/
theorem begin_ok {K : xMem → Prop} (hK : ∀ M, RelE M → K M) : w_X9_begins M01 (fun M1 => w_X9_adopts M1 K) := by
  sorry
