/-! pairs that are still wanted -/
theorem P_hill {M : xMem} (hR : RelE M)  {K : Int32 → xMem → Prop} (hK : ∀ r M1, (∀ K2 : Int32 → xMem → Prop, (∀ M2, RelE M2 → K2 r M2) → w_X9_hill M1  K2) → K r M1) : w_X8_hill M  K := by
  sorry
theorem P_build {M : xMem} (hR : RelE M) (a0 : Int32) (a1 : Int32) (a2 : Int32) (a3 : Int32) {K : Int32 → xMem → Prop} (hK : ∀ r M1, (∀ K2 : Int32 → xMem → Prop, (∀ M2, RelE M2 → K2 r M2) → w_X9_build M1 a0 a1 a2 a3 K2) → K r M1) : w_X8_build M a0 a1 a2 a3 K := by
  sorry
theorem P_wind {M : xMem} (hR : RelE M) (a0 : Int32) (a1 : Int32) {K : Int32 → xMem → Prop} (hK : ∀ r M1, (∀ K2 : Int32 → xMem → Prop, (∀ M2, RelE M2 → K2 r M2) → w_X9_wind M1 a0 a1 K2) → K r M1) : w_X8_wind M a0 a1 K := by
  sorry
theorem P_fade {M : xMem} (hR : RelE M) (a0 : Int32) {K : Int32 → xMem → Prop} (hK : ∀ r M1, (∀ K2 : Int32 → xMem → Prop, (∀ M2, RelE M2 → K2 r M2) → w_X9_fade M1 a0 K2) → K r M1) : w_X8_fade M a0 K := by
  sorry
theorem P_best {M : xMem} (hR : RelE M) (a0 : Int32) (a1 : Int32) (a2 : Int32) {K : Int32 → xMem → Prop} (hK : ∀ r M1, (∀ K2 : Int32 → xMem → Prop, (∀ M2, RelE M2 → K2 r M2) → w_X9_best M1 a0 a1 a2 K2) → K r M1) : w_X8_best M a0 a1 a2 K := by
  sorry
theorem P_saw {M : xMem} (hR : RelE M) (a0 : Int32) (a1 : Int32) (a2 : Int32) {K : Int32 → xMem → Prop} (hK : ∀ r M1, (∀ K2 : Int32 → xMem → Prop, (∀ M2, RelE M2 → K2 r M2) → w_X9_saw M1 a0 a1 a2 K2) → K r M1) : w_X8_saw M a0 a1 a2 K := by
  sorry
theorem P_who {M : xMem} (hR : RelE M) (a0 : Int32) {K : Int32 → xMem → Prop} (hK : ∀ r M1, (∀ K2 : Int32 → xMem → Prop, (∀ M2, RelE M2 → K2 r M2) → w_X9_who M1 a0 K2) → K r M1) : w_X8_who M a0 K := by
  sorry
theorem P_back {M : xMem} (hR : RelE M) (a0 : Int32) {K : Int32 → xMem → Prop} (hK : ∀ r M1, (∀ K2 : Int32 → xMem → Prop, (∀ M2, RelE M2 → K2 r M2) → w_X9_back M1 a0 K2) → K r M1) : w_X8_back M a0 K := by
  sorry
