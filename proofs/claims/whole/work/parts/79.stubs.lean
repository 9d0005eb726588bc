/-! pairs that are still wanted -/
theorem P_hill {M : xMem} (hR : RelE M)  {K : Int32 → xMem → Prop} (hK : ∀ r M1, (∀ K2 : Int32 → xMem → Prop, (∀ M2, RelE M2 → K2 r M2) → w_X9_hill M1  K2) → K r M1) : w_X8_hill M  K := by
  sorry
