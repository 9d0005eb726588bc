/-! the class settles: worths, prices, all of it -/
theorem u_prices {M : xMem} {d nd : Nat} {v : Nat → Int32} {post : xMem → Prop} (hh : d = 35 ∨ d = 58) (hnd : nd ≤ 8) (c3 : M.1 d 3 = nI nd) (hv : ∀ i, i < nd → M.1 (d + (12 + i)) 4 = v i) (hz : M.1 (d + 22) 0 = 0) (hK : ∀ M', (∀ j, j ≠ d + 22 → M'.1 j = M.1 j) → M'.2 = M.2 → M'.1 (d + 22) 0 = 0 → (∀ s, s < 2 ^ nd → M'.1 (d + 22) s = sumB v s nd) → post M') : xlp2 (b_X2_settle_87 post d) M 0 := by
  have z4 : (4 : Int32).toNatClampNeg = 4 := by decide
  refine cnt2 nd (by omega) (fun i M' => (∀ j, j ≠ d + 22 → M'.1 j = M.1 j) ∧ M'.2 = M.2 ∧ M'.1 (d + 22) 0 = 0 ∧ ∀ s, s < 2 ^ i → M'.1 (d + 22) s = sumB v s i) ⟨fun _ _ => rfl, rfl, hz, fun s hs => ?_⟩ (fun r i M1 hi hI hr => ?_)
  · have e : s = 0 := by
      have : s < 1 := hs
      omega
    rw [e, hz]
    rfl
  · obtain ⟨g1, g2, g3, g4⟩ := hI
    unfold b_X2_settle_87
    rw [show M1.1 d 3 = nI nd by rw [g1 d (by omega)]; exact c3]
    refine ⟨fun q => ?_, fun q => ?_⟩
    · have e : i = nd := Nat.le_antisymm hi ((nI_cond (by omega) (by omega)).mp q)
      subst e
      exact hK M1 g1 g2 g3 g4
    · have hl : i < nd := Nat.lt_of_not_le (fun q2 => q ((nI_cond (by omega) (by omega)).mpr q2))
      have h7 : 2 ^ i ≤ 2 ^ 7 := Nat.pow_le_pow_right (by decide) (by omega)
      have hps : 2 ^ (i + 1) = 2 ^ i + 2 ^ i := by rw [Nat.pow_succ]; omega
      rw [bit_one (by omega)]
      refine xlp4_of (I := fun M' a b q => a = nI i ∧ b = nI (2 ^ i) ∧ ∃ t, t ≤ 2 ^ i ∧ q = nI t ∧ (∀ j, j ≠ d + 22 → M'.1 j = M.1 j) ∧ M'.2 = M.2 ∧ (∀ s, s < 2 ^ i → M'.1 (d + 22) s = sumB v s i) ∧ M'.1 (d + 22) 0 = 0 ∧ ∀ s, s < t → M'.1 (d + 22) (2 ^ i + s) = sumB v (2 ^ i + s) (i + 1)) (mu := fun _ _ _ q => 2 ^ i - q.toNatClampNeg) ?_ ⟨rfl, rfl, 0, Nat.zero_le _, rfl, g1, g2, g4, g3, fun s hs => absurd hs (Nat.not_lt_zero _)⟩
      intro r2 M' a b q hI hr2
      obtain ⟨rfl, rfl, t, ht, rfl, f1, f2, f3, f5, f4⟩ := hI
      unfold b_X2_settle_101
      refine ⟨fun q => ?_, fun q => ?_⟩
      · have e : t = 2 ^ i := Nat.le_antisymm ht ((nI_cond (by omega) (by omega)).mp q)
        rw [nI_1]
        refine hr hl M' ⟨f1, f2, f5, fun s hs => ?_⟩
        by_cases c : s < 2 ^ i
        · rw [f3 s c, sumB_high c]
        · obtain ⟨s', rfl⟩ : ∃ s', s = 2 ^ i + s' := ⟨s - 2 ^ i, by omega⟩
          exact f4 s' (by omega)
      · have hlt : t < 2 ^ i := Nat.lt_of_not_le (fun q2 => q ((nI_cond (by omega) (by omega)).mpr q2))
        have hpos := Nat.two_pow_pos i
        rw [nI_add, nI_clamp (by omega), nI_clamp (by omega), nI_clamp (by omega), z4, nI_1]
        refine ⟨vp_in_nI (by omega) (by omega), vp_in_nI (by omega) (by omega), vp_in_nI (by omega) (by omega), fun M5 e5 => ?_⟩
        have ev : M'.1 (d + 11 + 1 + i) 4 = v i := by
          rw [show d + 11 + 1 + i = d + (12 + i) by omega, f1 _ (by omega)]
          exact hv i hl
        rw [ev, f3 t hlt] at e5
        refine hr2 _ _ _ _ ⟨rfl, rfl, t + 1, hlt, rfl, fun j hj => by rw [e5, m_row _ _ _ hj]; exact f1 j hj, by rw [e5, m_snd]; exact f2, fun s hs => by rw [e5, m_col _ _ _ (by omega)]; exact f3 s hs, by rw [e5, m_col _ _ _ (by omega)]; exact f5, fun s hs => ?_⟩ ?_
        · rw [e5]
          by_cases e : s = t
          · rw [e, m_same, sumB_up hlt]
          · rw [m_col _ _ _ (by omega)]
            exact f4 s (by omega)
        · show 2 ^ i - (nI (t + 1)).toNatClampNeg < 2 ^ i - (nI t).toNatClampNeg
          rw [nI_clamp (by omega), nI_clamp (by omega)]
          omega
theorem u_worths {M : xMem} {d nw : Nat} {v : Nat → Int32} {post : xMem → Prop} (hh : d = 35 ∨ d = 58) (hnw : nw ≤ 6) (c2 : M.1 d 2 = nI nw) (hv : ∀ i, i < nw → M.1 (d + (5 + i)) 3 = v i) (hz : M.1 (d + 21) 0 = 0) (hK : ∀ M', (∀ j, j ≠ d + 21 → M'.1 j = M.1 j) → M'.2 = M.2 → M'.1 (d + 21) 0 = 0 → (∀ s, s < 2 ^ nw → M'.1 (d + 21) s = sumB v s nw) → xlp2 (b_X2_settle_87 post d) M' 0) : xlp2 (b_X2_settle_31 post d) M 0 := by
  have z3 : (3 : Int32).toNatClampNeg = 3 := by decide
  refine cnt2 nw (by omega) (fun i M' => (∀ j, j ≠ d + 21 → M'.1 j = M.1 j) ∧ M'.2 = M.2 ∧ M'.1 (d + 21) 0 = 0 ∧ ∀ s, s < 2 ^ i → M'.1 (d + 21) s = sumB v s i) ⟨fun _ _ => rfl, rfl, hz, fun s hs => ?_⟩ (fun r i M1 hi hI hr => ?_)
  · have e : s = 0 := by
      have : s < 1 := hs
      omega
    rw [e, hz]
    rfl
  · obtain ⟨g1, g2, g3, g4⟩ := hI
    unfold b_X2_settle_31
    rw [show M1.1 d 2 = nI nw by rw [g1 d (by omega)]; exact c2]
    refine ⟨fun q => ?_, fun q => ?_⟩
    · have e : i = nw := Nat.le_antisymm hi ((nI_cond (by omega) (by omega)).mp q)
      subst e
      exact hK M1 g1 g2 g3 g4
    · have hl : i < nw := Nat.lt_of_not_le (fun q2 => q ((nI_cond (by omega) (by omega)).mpr q2))
      have h7 : 2 ^ i ≤ 2 ^ 5 := Nat.pow_le_pow_right (by decide) (by omega)
      have hps : 2 ^ (i + 1) = 2 ^ i + 2 ^ i := by rw [Nat.pow_succ]; omega
      rw [bit_one (by omega)]
      refine xlp4_of (I := fun M' a b q => a = nI i ∧ b = nI (2 ^ i) ∧ ∃ t, t ≤ 2 ^ i ∧ q = nI t ∧ (∀ j, j ≠ d + 21 → M'.1 j = M.1 j) ∧ M'.2 = M.2 ∧ (∀ s, s < 2 ^ i → M'.1 (d + 21) s = sumB v s i) ∧ M'.1 (d + 21) 0 = 0 ∧ ∀ s, s < t → M'.1 (d + 21) (2 ^ i + s) = sumB v (2 ^ i + s) (i + 1)) (mu := fun _ _ _ q => 2 ^ i - q.toNatClampNeg) ?_ ⟨rfl, rfl, 0, Nat.zero_le _, rfl, g1, g2, g4, g3, fun s hs => absurd hs (Nat.not_lt_zero _)⟩
      intro r2 M' a b q hI hr2
      obtain ⟨rfl, rfl, t, ht, rfl, f1, f2, f3, f5, f4⟩ := hI
      unfold b_X2_settle_45
      refine ⟨fun q => ?_, fun q => ?_⟩
      · have e : t = 2 ^ i := Nat.le_antisymm ht ((nI_cond (by omega) (by omega)).mp q)
        rw [nI_1]
        refine hr hl M' ⟨f1, f2, f5, fun s hs => ?_⟩
        by_cases c : s < 2 ^ i
        · rw [f3 s c, sumB_high c]
        · obtain ⟨s', rfl⟩ : ∃ s', s = 2 ^ i + s' := ⟨s - 2 ^ i, by omega⟩
          exact f4 s' (by omega)
      · have hlt : t < 2 ^ i := Nat.lt_of_not_le (fun q2 => q ((nI_cond (by omega) (by omega)).mpr q2))
        have hpos := Nat.two_pow_pos i
        rw [nI_add, nI_clamp (by omega), nI_clamp (by omega), nI_clamp (by omega), z3, nI_1]
        refine ⟨vp_in_nI (by omega) (by omega), vp_in_nI (by omega) (by omega), vp_in_nI (by omega) (by omega), fun M5 e5 => ?_⟩
        have ev : M'.1 (d + 4 + 1 + i) 3 = v i := by
          rw [show d + 4 + 1 + i = d + (5 + i) by omega, f1 _ (by omega)]
          exact hv i hl
        rw [ev, f3 t hlt] at e5
        refine hr2 _ _ _ _ ⟨rfl, rfl, t + 1, hlt, rfl, fun j hj => by rw [e5, m_row _ _ _ hj]; exact f1 j hj, by rw [e5, m_snd]; exact f2, fun s hs => by rw [e5, m_col _ _ _ (by omega)]; exact f3 s hs, by rw [e5, m_col _ _ _ (by omega)]; exact f5, fun s hs => ?_⟩ ?_
        · rw [e5]
          by_cases e : s = t
          · rw [e, m_same, sumB_up hlt]
          · rw [m_col _ _ _ (by omega)]
            exact f4 s (by omega)
        · show 2 ^ i - (nI (t + 1)).toNatClampNeg < 2 ^ i - (nI t).toNatClampNeg
          rw [nI_clamp (by omega), nI_clamp (by omega)]
          omega
theorem u_settle {M : xMem} {d w hg nw nd : Nat} {wk dd : Nat → Int32} {post : xMem → Prop} (hh : d = 35 ∨ d = 58) (hnw : nw ≤ 6) (hnd : nd ≤ 8) (c0 : M.1 d 0 = nI w ∧ M.1 d 1 = nI hg) (c2 : M.1 d 2 = nI nw) (c3 : M.1 d 3 = nI nd) (hwk : ∀ i k, i < nw → k < 4 → M.1 (d + (5 + i)) k = wk (4 * i + k)) (hdd : ∀ i k, i < nd → k < 5 → M.1 (d + (12 + i)) k = dd (5 * i + k)) (hD : rD (w * hg) nd dd) (z21 : M.1 (d + 21) 0 = 0) (z22 : M.1 (d + 22) 0 = 0) (hK : ∀ M', (∀ j, ¬ (d + 12 ≤ j ∧ j ≤ d + 22) → M'.1 j = M.1 j) → M'.2 = M.2 → rX w hg nw nd (fun i => M'.1 (d + i)) wk dd → M'.1 (d + 21) 0 = 0 → M'.1 (d + 22) 0 = 0 → post M') : w_X2_settle M d post := by
  have kh : kd d = 2 := by rcases hh with rfl | rfl <;> decide
  have k20 : kd (d + 20) = 10 ∧ ln (d + 20) = 12 := by rcases hh with rfl | rfl <;> decide
  unfold w_X2_settle
  refine ⟨kh, c_fill k20.1 (by omega) (fun M2 a1 a2 a3 a4 => ?_)⟩
  refine cnt2 nd (by omega) (fun k M' => sF M M' d ∧ (∀ j, (j = d + 21 ∨ j = d + 22) → M'.1 j = M.1 j) ∧ sH M' d nd k 0 dd ∧ ∀ i, i < k → bitsOf (M'.1 (d + (12 + i)) 5) 12 (fun h => dHold dd i h)) ⟨⟨fun j hj => a1 j (by omega), a2, fun i k hi hk => by rw [a1 _ (by omega)]⟩, fun j hj => a1 j (by omega), fun h hh' => ?_, fun i hi => absurd hi (Nat.not_lt_zero _)⟩ (fun r k M' hk hI hr => ?_)
  · rw [a4 h (by omega)]
    exact bitsOf_zero (fun e he q => by rcases q.2 with q | q <;> omega)
  · obtain ⟨F, Z, H, R⟩ := hI
    unfold b_X2_settle_10
    rw [show M'.1 d 3 = nI nd by rw [F.1 d (by omega)]; exact c3]
    refine ⟨fun q => ?_, fun q => ?_⟩
    · have e : k = nd := Nat.le_antisymm hk ((nI_cond (by omega) (by omega)).mp q)
      subst e
      refine u_worths (nw := nw) (v := fun i => wk (4 * i + 3)) hh hnw (by rw [F.1 d (by omega)]; exact c2) (fun i hi => by rw [F.1 _ (by omega)]; exact hwk i 3 hi (by omega)) (by rw [Z _ (Or.inl rfl)]; exact z21) (fun M3 b1 b2 b3 b4 => ?_)
      refine u_prices (nd := k) (v := fun i => dd (5 * i + 4)) hh hnd (by rw [b1 d (by omega), F.1 d (by omega)]; exact c3) (fun i hi => by rw [b1 _ (by omega), F.2.2 i 4 (by omega) (by omega)]; exact hdd i 4 hi (by omega)) (by rw [b1 _ (by omega), Z _ (Or.inr rfl)]; exact z22) (fun M4 e1 e2 e3 e4 => ?_)
      have g : ∀ j, j ≠ d + 21 → j ≠ d + 22 → M4.1 j = M'.1 j := fun j p q => (e1 j q).trans (b1 j p)
      refine hK M4 (fun j hj => by rw [g j (by omega) (by omega)]; exact F.1 j hj) (by rw [e2, b2]; exact F.2.1) ⟨⟨?_, ?_, ?_, ?_⟩, fun i c hi hc => ?_, fun i c hi hc => ?_, fun h hh' => ?_, fun i hi => ?_, fun s hs => ?_, fun s hs => ?_⟩ (by rw [e1 _ (by omega)]; exact b3) e3
      · show M4.1 d 0 = _
        rw [g d (by omega) (by omega), F.1 d (by omega)]
        exact c0.1
      · show M4.1 d 1 = _
        rw [g d (by omega) (by omega), F.1 d (by omega)]
        exact c0.2
      · show M4.1 d 2 = _
        rw [g d (by omega) (by omega), F.1 d (by omega)]
        exact c2
      · show M4.1 d 3 = _
        rw [g d (by omega) (by omega), F.1 d (by omega)]
        exact c3
      · show M4.1 (d + (5 + i)) c = _
        rw [g _ (by omega) (by omega), F.1 _ (by omega)]
        exact hwk i c hi hc
      · show M4.1 (d + (12 + i)) c = _
        rw [g _ (by omega) (by omega), F.2.2 i c (by omega) (by omega)]
        exact hdd i c hi hc
      · show bitsOf (M4.1 (d + 20) h) k _
        rw [g _ (by omega) (by omega)]
        exact bitsOf_cong (H h hh') (fun e he => ⟨fun q => q.1, fun q => ⟨q, Or.inl he⟩⟩)
      · show bitsOf (M4.1 (d + (12 + i)) 5) 12 _
        rw [g _ (by omega) (by omega)]
        exact R i hi
      · show M4.1 (d + 21) s = _
        rw [e1 _ (by omega)]
        exact b4 s hs
      · exact e4 s hs
    · have hl : k < nd := Nat.lt_of_not_le (fun q2 => q ((nI_cond (by omega) (by omega)).mpr q2))
      refine u_settleH hh hnd hl hD c3 hdd F Z H R (fun M3 f1 f2 f3 f4 => ?_)
      rw [nI_1]
      exact hr hl M3 ⟨f1, f2, f3, f4⟩
