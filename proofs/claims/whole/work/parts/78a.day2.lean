/-! a day, where ground and rows stand in memories apart -/
theorem rel_choose2 {N M6 : xMem} {h d w hg f nw nd hr : Nat} {paid : Int32} {post : xMem → Prop} (hR : Rel N h d w hg f nw nd) (hh : hr < 12) (f1 : ∀ j, j < 81 → j ≠ 14 → M6.1 j = N.1 j) (hK : ∀ M', (∀ j, j ≠ 14 → M'.1 j = M6.1 j) → M'.2 = M6.2 → M'.1 14 3 = (plS paid (pW N h) (pB N h hr) (pC N h hr) (2 ^ nw - 1)).2 → post M') : w_X4_choose M6 h (nI hr) paid post := by
  obtain ⟨r1, r2, r3, r4, r5, r6, r7, r8, r9, r10, r11, r12, r13⟩ := id hR
  obtain ⟨hx, e5, hk⟩ := Rel_h hR
  have hnd : nd ≤ 8 := r3.2.2.2.2
  have h256 : 2 ^ nd ≤ 2 ^ 8 := Nat.pow_le_pow_right (by decide) hnd
  have g15 : M6.1 15 = N.1 15 := f1 15 (by omega) (by omega)
  have g20 : M6.1 (h + 20) = N.1 (h + 20) := f1 _ (by omega) (by omega)
  have g21 : M6.1 (h + 21) = N.1 (h + 21) := f1 _ (by omega) (by omega)
  have g22 : M6.1 (h + 22) = N.1 (h + 22) := f1 _ (by omega) (by omega)
  refine u_choose hk (by rw [f1 h (by omega) (by omega)]; exact r7.1.2.2.1) r3.2.2.2.1 hh (by omega) (fun s hs => ?_) (fun M' a1 a2 a3 a4 => hK M' a1 a2 ?_)
  · rw [g15, g20]
    obtain ⟨k, k1, k2, _⟩ := pB_in hR hh hs
    exact ⟨k, by omega, k2⟩
  · rw [g15, g20, g21, g22] at a4
    exact a4
theorem u_day2 {N M6 : xMem} {h d w hg f nw nd : Nat} {paid : Int32} {post : Int32 → xMem → Prop} (hR : Rel N h d w hg f nw nd) (f1 : ∀ j, j < 81 → j ≠ 14 → M6.1 j = N.1 j) (hK : ∀ M', (∀ j, j ≠ 14 → M'.1 j = M6.1 j) → M'.2 = M6.2 → post (dayS paid N h nw 12) M') : w_X4_wholeDay M6 h paid post := by
  unfold w_X4_wholeDay
  refine xlp5_of (I := fun M' a b x q => a = h ∧ b = paid ∧ ∃ k, k ≤ 12 ∧ q = nI k ∧ x = dayS paid N h nw k ∧ (∀ j, j ≠ 14 → M'.1 j = M6.1 j) ∧ M'.2 = M6.2) (mu := fun _ _ _ _ q => 12 - q.toNatClampNeg) ?_ ⟨rfl, rfl, 0, by omega, rfl, rfl, fun _ _ => rfl, rfl⟩
  intro r M' a b x q hI hr
  obtain ⟨rfl, rfl, k, hk, rfl, rfl, g1, g2⟩ := hI
  unfold b_X4_wholeDay_5
  refine ⟨fun q => ?_, fun q => ?_⟩
  · have e : k = 12 := Nat.le_antisymm hk ((li_le (n := 12) (by omega) (by decide)).mp q)
    subst e
    exact hK M' g1 g2
  · have hl : k < 12 := Nat.lt_of_not_le (fun q2 => q ((li_le (by omega) (by decide)).mpr q2))
    refine rel_choose2 hR hl (fun j p q => (g1 j q).trans (f1 j p q)) (fun M3 c1 c2 c4 => ?_)
    rw [nI_1, c4]
    refine hr _ _ _ _ _ ⟨rfl, rfl, k + 1, hl, rfl, rfl, fun j hj => (c1 j hj).trans (g1 j hj), c2.trans g2⟩ ?_
    show 12 - (nI (k + 1)).toNatClampNeg < 12 - (nI k).toNatClampNeg
    rw [nI_clamp (by omega), nI_clamp (by omega)]
    omega
theorem v_day2 {N M6 : xMem} {h d w hg f nw nd : Nat} {paid : Int32} {post : Int32 → xMem → Prop} (hR : Rel N h d w hg f nw nd) (hp : inN paid 2) (f83 : M6.1 83 = N.1 83) (f87 : M6.1 87 = N.1 87) (f88 : M6.1 88 = N.1 88) (f81 : ∀ k, (k = 9 ∨ k = 10 ∨ k = 11 ∨ k = 20 ∨ k = 21) → M6.1 81 k = N.1 81 k) (hK : ∀ M', (∀ j, j ≠ 81 → j ≠ 89 → M'.1 j = M6.1 j) → (∀ k, k ≠ 25 → k ≠ 26 → M'.1 81 k = M6.1 81 k) → M'.2 = M6.2 → post (dayS paid N h nw 12) M') : w_X9_dayOf M6 paid post := by
  obtain ⟨r1, r2, r3, r4, r5, r6, r7, r8, r9, r10, r11, r12, r13⟩ := id hR
  have hb := (rB_bounds r3).2
  have hnw : nw ≤ 6 := r3.2.2.2.1
  have hnd : nd ≤ 8 := r3.2.2.2.2
  unfold w_X9_dayOf
  refine v_all ((f81 9 (by omega)).trans r4.1) ((f81 10 (by omega)).trans r4.2.1) ((f81 11 (by omega)).trans r4.2.2.1) ((f81 20 (by omega)).trans r4.2.2.2.1) (by rw [f83]; exact r6.1) (by rw [f87]; exact r6.2.1) r3.1.1 r3.1.2 (by have := r3.2.2.1; omega) hb hnw (fun M7 a1 a2 a3 => ?_)
  rw [f83, f87] at a3
  refine xlp4_of (I := fun M' b x q => b = paid ∧ ∃ k, k ≤ 12 ∧ q = nI k ∧ x = dayS paid N h nw k ∧ (∀ j, j ≠ 81 → j ≠ 89 → M'.1 j = M6.1 j) ∧ (∀ k, k ≠ 25 → k ≠ 26 → M'.1 81 k = M6.1 81 k) ∧ M'.2 = M6.2 ∧ M'.1 89 = M7.1 89) (mu := fun _ _ _ q => 12 - q.toNatClampNeg) ?_ ⟨rfl, 0, by omega, rfl, rfl, fun j _ q => a1 j q, fun k _ _ => by rw [a1 81 (by omega)], a2, rfl⟩
  intro r M' b x q hI hr
  obtain ⟨rfl, k, hk, rfl, rfl, g1, g2, g3, g4⟩ := hI
  unfold b_X9_dayOf_8
  refine ⟨fun q => ?_, fun q => ?_⟩
  · have e : k = 12 := Nat.le_antisymm hk ((li_le (n := 12) (by omega) (by decide)).mp q)
    subst e
    exact hK M' g1 g2 g3
  · have hl : k < 12 := Nat.lt_of_not_le (fun q2 => q ((li_le (by omega) (by decide)).mpr q2))
    have g87 : M'.1 87 = N.1 87 := (g1 87 (by omega) (by omega)).trans f87
    have g88 : M'.1 88 = N.1 88 := (g1 88 (by omega) (by omega)).trans f88
    have g89 : ∀ i, i < nw → rL w hg f (N.1 83) (N.1 87 (4 * i)).toNatClampNeg (N.1 87 (4 * i + 1)).toNatClampNeg (fun y => M'.1 89 (48 * i + y)) := fun i hi => by
      rw [g4]
      exact a3 i hi
    refine v_plans (n := w * hg) (nw := nw) (nd := nd) (W := pW N h) (B := pB N h k) (C := pC N h k) (((g2 20 (by omega) (by omega)).trans (f81 20 (by omega))).trans r4.2.2.2.1) (((g2 21 (by omega) (by omega)).trans (f81 21 (by omega))).trans r4.2.2.2.2.1) (by rw [g87]; exact r6.2.1) (by rw [g88]; exact r6.2.2) hb hnw hnd hl hp (fun s hs => by rw [g87]; exact r7.2.2.2.2.2.1 s hs) (fun s hs x hx => br_same hR g88 g87 g89 hl hs (fun i hi => by rw [nI_bits (by have : 2 ^ nw ≤ 2 ^ 6 := Nat.pow_le_pow_right (by decide) hnw; omega)]) hx) (fun s hs => by rw [g88]; exact pB_in hR hl hs) (fun M3 c1 c2 c3 c4 c5 => ?_)
    rw [nI_1, c5]
    refine hr _ _ _ _ ⟨rfl, k + 1, hl, rfl, rfl, fun j p q => (c1 j p).trans (g1 j p q), fun j p q => (c2 j p q).trans (g2 j p q), c3.trans g3, (c1 89 (by omega)).trans g4⟩ ?_
    show 12 - (nI (k + 1)).toNatClampNeg < 12 - (nI k).toNatClampNeg
    rw [nI_clamp (by omega), nI_clamp (by omega)]
    omega
theorem plS_cong {paid : Int32} {W B C W' B' C' : Nat → Int32} : ∀ n, (∀ s, s ≤ n → W s = W' s ∧ B s = B' s ∧ C s = C' s) → plS paid W B C n = plS paid W' B' C' n
  | 0, _ => rfl
  | n + 1, h => by
    obtain ⟨a, b, c⟩ := h (n + 1) (Nat.le_refl _)
    unfold plS
    rw [plS_cong n (fun s hs => h s (Nat.le_succ_of_le hs)), a, b, c]
theorem dayS_uniq {paid : Int32} {N N' : xMem} {h d w hg f nw nd : Nat} (hR : Rel N h d w hg f nw nd) (hR' : Rel N' h d w hg f nw nd) (e83 : N'.1 83 = N.1 83) (e87 : N'.1 87 = N.1 87) (e88 : N'.1 88 = N.1 88) : ∀ n, n ≤ 12 → dayS paid N' h nw n = dayS paid N h nw n
  | 0, _ => rfl
  | n + 1, hn => by
    unfold dayS
    rw [dayS_uniq hR hR' e83 e87 e88 n (by omega)]
    have hnw : nw ≤ 6 := hR.2.2.1.2.2.2.1
    have hnd : nd ≤ 8 := hR.2.2.1.2.2.2.2
    have hb := (rB_bounds hR.2.2.1).2
    have hpos := Nat.two_pow_pos nw
    have r6 := hR.2.2.2.2.2.1
    have r7 := hR.2.2.2.2.2.2.1
    have r7' := hR'.2.2.2.2.2.2.1
    have r11 := hR.2.2.2.2.2.2.2.2.2.2.1
    have r11' := hR'.2.2.2.2.2.2.2.2.2.2.1
    have r12 := hR.2.2.2.2.2.2.2.2.2.2.2.1
    have r12' := hR'.2.2.2.2.2.2.2.2.2.2.2.1
    rw [e83, e87] at r11'
    rw [e87, e88] at r12' r7'
    rw [plS_cong (2 ^ nw - 1) (fun s hs => ?_)]
    have hs' : s < 2 ^ nw := by omega
    have eb : pB N' h n s = pB N h n s := bitsOf_uniq (bitsOf_and (by omega) (r12' s hs') (r7'.2.2.2.1 n (by omega))) (bitsOf_cong (bitsOf_and (by omega) (r12 s hs') (r7.2.2.2.1 n (by omega))) (fun j hj => by
      obtain ⟨⟨y, y1, y2⟩, _⟩ := r6.2.2 j hj
      have e := heardS_cong (lf := fun i => N.1 (7 + i)) (lf' := fun i => N'.1 (7 + i)) (wk := N.1 87) (y := (N.1 88 (5 * j)).toNatClampNeg) (o := true) (s := s) nw (fun i hi => by
        show N'.1 (7 + i) _ = N.1 (7 + i) _
        rw [y2, nI_clamp (by omega)]
        exact rL_uniq (r11' i hi) (r11 i hi) y y1)
      rw [e]))
    refine ⟨?_, eb, ?_⟩
    · exact (r7'.2.2.2.2.2.1 s hs').trans (r7.2.2.2.2.2.1 s hs').symm
    · obtain ⟨k, k1, k2, k3⟩ := pB_in hR (show n < 12 by omega) hs'
      obtain ⟨k', l1, l2, l3⟩ := pB_in hR' (show n < 12 by omega) hs'
      rw [eb, k2] at l2
      have h256 : 2 ^ nd ≤ 2 ^ 8 := Nat.pow_le_pow_right (by decide) hnd
      have : k = k' := q_inj (by omega) (by omega) l2
      rw [l3, k3, this, e88]
/-- what a day brings is the ground's doing -/
theorem day_fun (paid : Int32) (h d w hg f nw nd : Nat) (wk dd : Nat → Int32) : ∃ D : (Nat → Int32) → Int32, ∀ N, Rel N h d w hg f nw nd → N.1 87 = wk → N.1 88 = dd → dayS paid N h nw 12 = D (N.1 83) := by
  have key : ∀ t : Nat → Int32, ∃ x, ∀ N, Rel N h d w hg f nw nd → N.1 87 = wk → N.1 88 = dd → N.1 83 = t → dayS paid N h nw 12 = x := fun t => by
    by_cases e : ∃ N, Rel N h d w hg f nw nd ∧ N.1 87 = wk ∧ N.1 88 = dd ∧ N.1 83 = t
    · obtain ⟨N0, n1, n2, n3, n4⟩ := e
      exact ⟨dayS paid N0 h nw 12, fun N a b c g => dayS_uniq n1 a (g.trans n4.symm) (b.trans n2.symm) (c.trans n3.symm) 12 (Nat.le_refl _)⟩
    · exact ⟨0, fun N a b c g => absurd ⟨N, a, b, c, g⟩ e⟩
  exact ⟨fun t => Classical.choose (key t), fun N a b c => Classical.choose_spec (key (N.1 83)) N a b c rfl⟩
