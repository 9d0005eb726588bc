/-! all workers are spread anew -/
theorem row_7 {i : Nat} (hi : i < 6) : kd (7 + i) = 10 ∧ ln (7 + i) = 48 := by
  have : ∀ i, i < 6 → kd (7 + i) = 10 ∧ ln (7 + i) = 48 := by decide
  exact this i hi
theorem u_hearW {M : xMem} {h nw w hg f : Nat} {s wk : Nat → Int32} {post : xMem → Prop} (hh : h = 35 ∨ h = 58) (hw : 1 ≤ w) (hw2 : w ≤ 8) (hg2 : hg ≤ 6) (hf : f < 10) (hN : w * hg ≤ 48) (hnw : nw ≤ 6) (hS : rS s) (hW : rW (w * hg) nw wk) (e0 : M.1 h 0 = nI w) (e1 : M.1 h 1 = nI hg) (e2 : M.1 h 2 = nI nw) (e5 : M.1 5 2 = nI f) (hG : rG (M.1 (h + 2)) (M.1 (h + 3)) (M.1 (h + 1) 2) (M.1 (h + 1) 3) s) (hk : ∀ i k, i < nw → k < 4 → M.1 (h + (5 + i)) k = wk (4 * i + k)) (hK : ∀ M', (∀ j, (j < 7 ∨ 13 ≤ j) → M'.1 j = M.1 j) → M'.2 = M.2 → (∀ i, i < nw → rL w hg f s (wk (4 * i)).toNatClampNeg (wk (4 * i + 1)).toNatClampNeg (M'.1 (7 + i))) → post M') : w_X6_hearWorkers M h post := by
  have kh : kd h = 2 := by rcases hh with rfl | rfl <;> decide
  have kh1 : kd (h + 1) = 0 := by rcases hh with rfl | rfl <;> decide
  have c0 : (0 : Int32).toNatClampNeg = 0 := by decide
  have c1 : (1 : Int32).toNatClampNeg = 1 := by decide
  unfold w_X6_hearWorkers
  refine cnt3 nw (by omega) (fun k M' => (∀ j, (j < 7 ∨ 13 ≤ j) → M'.1 j = M.1 j) ∧ M'.2 = M.2 ∧ ∀ i, i < k → rL w hg f s (wk (4 * i)).toNatClampNeg (wk (4 * i + 1)).toNatClampNeg (M'.1 (7 + i))) ⟨fun _ _ => rfl, rfl, fun i hi => absurd hi (Nat.not_lt_zero _)⟩ (fun r k M' hk' hI hr => ?_)
  obtain ⟨g1, g2, g3⟩ := hI
  have gh : ∀ j, j < 23 → M'.1 (h + j) = M.1 (h + j) := fun j _ => g1 _ (by omega)
  unfold b_X6_hearWorkers_2
  rw [show M'.1 h = M.1 h from g1 h (by omega), e2]
  refine ⟨kh, fun q => ?_, fun q => ?_⟩
  · have e : k = nw := Nat.le_antisymm hk' ((nI_cond (by omega) (by omega)).mp q)
    subst e
    exact hK M' g1 g2 g3
  · have hl : k < nw := Nat.lt_of_not_le (fun q2 => q ((nI_cond (by omega) (by omega)).mpr q2))
    obtain ⟨r10, r48⟩ := row_7 (show k < 6 by omega)
    refine ⟨vp_in_nI (by omega) (by omega), vp_in_nI (by omega) (by omega), ?_⟩
    obtain ⟨⟨src, s1, s2⟩, ⟨z, z1, z2⟩, _⟩ := hW k hl
    have k0 : M'.1 (h + 4 + 1 + k) 0 = nI src := by
      rw [show h + 4 + 1 + k = h + (5 + k) by omega, gh _ (by omega), hk k 0 hl (by omega)]
      exact s2
    have k1 : M'.1 (h + 4 + 1 + k) 1 = nI z := by
      rw [show h + 4 + 1 + k = h + (5 + k) by omega, gh _ (by omega), hk k 1 hl (by omega)]
      exact z2
    rw [nI_clamp (by omega), c0, c1, k0, k1, show 5 + 1 + 1 + k = 7 + k by omega]
    have ih0 : M'.1 h = M.1 h := g1 h (by omega)
    refine u_spread hw hw2 hg2 hf hN kh r10 r48 kh1 (by omega) s1 (by omega) hS (by rw [ih0]; exact e0) (by rw [ih0]; exact e1) (by rw [g1 5 (by omega)]; exact e5) (by rw [gh 1 (by omega), gh 2 (by omega), gh 3 (by omega)]; exact hG) (fun M6 a1 a2 a3 => ?_)
    rw [nI_1]
    refine hr hl M6 ⟨fun j hj => (a1 j (by omega)).trans (g1 j hj), a2.trans g2, fun i hi => ?_⟩
    by_cases e : i = k
    · subst e
      rw [s2, z2, nI_clamp (by omega), nI_clamp (by omega)]
      exact a3
    · rw [a1 (7 + i) (by omega)]
      exact g3 i (by omega)
