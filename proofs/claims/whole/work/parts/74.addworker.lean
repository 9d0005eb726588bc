/-! one worker more in the sums of sets -/
theorem u_addWorker {M : xMem} {i d : Nat} {more limit : Int32} {post : xMem → Prop} (hi : i < 6) (hd : d < 8) (hK : ∀ M', (∀ j, j ≠ 15 → j ≠ 16 → M'.1 j = M.1 j) → M'.2 = M.2 → (∀ k, (k < 2 ^ i ∨ 2 ^ (i + 1) ≤ k) → M'.1 16 k = M.1 16 k ∧ M'.1 15 k = M.1 15 k) → (∀ k, k < 2 ^ i → M'.1 16 (2 ^ i + k) = M.1 16 k + more ∧ M'.1 15 (2 ^ i + k) = if M.1 16 k + more ≤ limit then M.1 15 (2 ^ i + k) else M.1 15 (2 ^ i + k) ||| nI (2 ^ d)) → post M') : w_X4_addWorker M (nI (2 ^ i)) more limit (nI (2 ^ d)) post := by
  have h32 : 2 ^ i ≤ 2 ^ 5 := Nat.pow_le_pow_right (by decide) (by omega)
  have h2 : 2 ^ (i + 1) = 2 ^ i + 2 ^ i := by rw [Nat.pow_succ]; omega
  unfold w_X4_addWorker
  refine xlp6_of (I := fun M' a b c e q => a = nI (2 ^ i) ∧ b = more ∧ c = limit ∧ e = nI (2 ^ d) ∧ ∃ k, k ≤ 2 ^ i ∧ q = nI k ∧ (∀ j, j ≠ 15 → j ≠ 16 → M'.1 j = M.1 j) ∧ M'.2 = M.2 ∧ (∀ t, (t < 2 ^ i ∨ 2 ^ i + k ≤ t) → M'.1 16 t = M.1 16 t ∧ M'.1 15 t = M.1 15 t) ∧ ∀ t, t < k → M'.1 16 (2 ^ i + t) = M.1 16 t + more ∧ M'.1 15 (2 ^ i + t) = if M.1 16 t + more ≤ limit then M.1 15 (2 ^ i + t) else M.1 15 (2 ^ i + t) ||| nI (2 ^ d)) (mu := fun _ _ _ _ _ q => 2 ^ i - q.toNatClampNeg) ?_ ⟨rfl, rfl, rfl, rfl, 0, Nat.zero_le _, rfl, fun _ _ _ => rfl, rfl, fun _ _ => ⟨rfl, rfl⟩, fun t ht => absurd ht (Nat.not_lt_zero _)⟩
  intro r M' a b c e q hI hr
  obtain ⟨rfl, rfl, rfl, rfl, k, hk, rfl, g1, g2, g3, g4⟩ := hI
  unfold b_X4_addWorker_3
  refine ⟨fun q => ?_, fun q => ?_⟩
  · have e : k = 2 ^ i := Nat.le_antisymm hk ((nI_cond (by omega) (by omega)).mp q)
    rw [e] at g3 g4
    exact hK M' g1 g2 (fun t ht => g3 t (by omega)) g4
  · have hl : k < 2 ^ i := Nat.lt_of_not_le (fun q2 => q ((nI_cond (by omega) (by omega)).mpr q2))
    rw [nI_add]
    refine ⟨vp_in_nI (by omega) (by omega), vp_in_nI (by omega) (by omega), fun M4 e4 => ?_⟩
    rw [nI_clamp (by omega), nI_clamp (by omega)] at e4
    have k16 : M'.1 16 k = M.1 16 k := (g3 k (by omega)).1
    have e4' : M4 = xset M' 16 (2 ^ i + k) (M.1 16 k + b) := by
      rw [e4, ← k16]
    have s16 : M4.1 16 (2 ^ i + k) = M.1 16 k + b := by rw [e4', m_same]
    have s15 : M4.1 15 = M'.1 15 := by rw [e4', m_row _ _ _ (by omega)]
    have o15 : M'.1 15 (2 ^ i + k) = M.1 15 (2 ^ i + k) := (g3 _ (by omega)).2
    have nx : ∀ M5, (∀ j, j ≠ 15 → j ≠ 16 → M5.1 j = M4.1 j) → M5.2 = M4.2 → M5.1 16 = M4.1 16 → (∀ t, t ≠ 2 ^ i + k → M5.1 15 t = M4.1 15 t) → (M5.1 15 (2 ^ i + k) = if M.1 16 k + b ≤ c then M.1 15 (2 ^ i + k) else M.1 15 (2 ^ i + k) ||| nI (2 ^ d)) → b_X4_addWorker_54 post r M5 (nI (2 ^ i)) b c (nI (2 ^ d)) (nI k) := fun M5 a1 a2 a3 a4 a5 => by
      unfold b_X4_addWorker_54
      rw [nI_1]
      refine hr M5 _ _ _ _ _ ⟨rfl, rfl, rfl, rfl, k + 1, hl, rfl, fun j x y => ?_, ?_, fun t ht => ⟨?_, ?_⟩, fun t ht => ⟨?_, ?_⟩⟩ ?_
      · rw [a1 j x y, e4', m_row _ _ _ y]
        exact g1 j x y
      · rw [a2, e4', m_snd]
        exact g2
      · rw [a3, e4', m_col _ _ _ (by omega)]
        exact (g3 t (by omega)).1
      · rw [a4 t (by omega), s15]
        exact (g3 t (by omega)).2
      · by_cases e : t = k
        · subst e
          rw [a3, s16]
        · rw [a3, e4', m_col _ _ _ (by omega)]
          exact (g4 t (by omega)).1
      · by_cases e : t = k
        · subst e
          exact a5
        · rw [a4 _ (by omega), s15]
          exact (g4 t (by omega)).2
      · show 2 ^ i - (nI (k + 1)).toNatClampNeg < 2 ^ i - (nI k).toNatClampNeg
        rw [nI_clamp (by omega), nI_clamp (by omega)]
        omega
    rw [nI_clamp (by omega)]
    have s16' : M4.1 (14 + 2) (2 ^ i + k) = M.1 16 k + b := s16
    rw [s16']
    refine ⟨fun y => nx M4 (fun _ _ _ => rfl) rfl rfl (fun _ _ => rfl) ?_, fun y => ⟨vp_in_nI (by omega) (by omega), fun M7 e7 => nx M7 (fun j x z => ?_) ?_ ?_ (fun t ht => ?_) ?_⟩⟩
    · rw [if_pos y, s15, o15]
    · rw [e7, m_row _ _ _ x]
    · rw [e7, m_snd]
    · rw [e7, m_row _ _ _ (by omega)]
    · rw [e7, m_col _ _ _ ht]
    · rw [e7, m_same, if_neg y]
      show M4.1 15 (2 ^ i + k) ||| _ = _
      rw [s15, o15]
