/-! plan, day -/
def rf (w hg f nw : Nat) (M M' : xMem) : Prop := (∀ j, j ≠ 14 → j ≠ 81 → j ≠ 89 → M'.1 j = M.1 j) ∧ (∀ k, k ≠ 0 → k ≠ 25 → k ≠ 26 → M'.1 81 k = M.1 81 k) ∧ M'.2 = M.2 ∧ ∀ i, i < nw → rL w hg f (M.1 83) (M.1 87 (4 * i)).toNatClampNeg (M.1 87 (4 * i + 1)).toNatClampNeg (fun y => M'.1 89 (48 * i + y))
theorem rf_Rel {M M' : xMem} {h d w hg f nw nd : Nat} (hR : Rel M h d w hg f nw nd) (hf : rf w hg f nw M M') : RelE M' := by
  obtain ⟨f1, f2, f3, _⟩ := hf
  refine ⟨h, d, w, hg, f, nw, nd, Rel_same hR ⟨fun i k q => ?_, f3⟩⟩
  by_cases e : i = 81
  · subst e
    exact f2 k (fun e => q (by unfold scr; omega)) (fun e => q (by unfold scr; omega)) (fun e => q (by unfold scr; omega))
  · rw [f1 i (fun e => q (by unfold scr; omega)) e (fun e => q (by unfold scr; omega))]
def pW (M : xMem) (h : Nat) : Nat → Int32 := M.1 (h + 21)
def pB (M : xMem) (h hr : Nat) (s : Nat) : Int32 := M.1 15 s &&& M.1 (h + 20) hr
def pC (M : xMem) (h hr : Nat) (s : Nat) : Int32 := M.1 (h + 22) (M.1 15 s &&& M.1 (h + 20) hr).toNatClampNeg
theorem pB_in {M : xMem} {h d w hg f nw nd hr : Nat} (hR : Rel M h d w hg f nw nd) (hh : hr < 12) {s : Nat} (hs : s < 2 ^ nw) : ∃ k, k < 2 ^ nd ∧ pB M h hr s = nI k ∧ pC M h hr s = sumB (fun i => M.1 88 (5 * i + 4)) k nd := by
  obtain ⟨r1, r2, r3, r4, r5, r6, r7, r8, r9, r10, r11, r12, r13⟩ := id hR
  have hnd : nd ≤ 8 := r3.2.2.2.2
  have h256 : 2 ^ nd ≤ 2 ^ 8 := Nat.pow_le_pow_right (by decide) hnd
  obtain ⟨k, k1, k2, _⟩ := bitsOf_and (by omega) (r12 s hs) (r7.2.2.2.1 hr hh)
  refine ⟨k, k1, k2, ?_⟩
  have k2' : M.1 15 s &&& M.1 (h + 20) hr = nI k := k2
  unfold pC
  rw [k2', nI_clamp (by omega)]
  exact r7.2.2.2.2.2.2 k k1
theorem rf_plans {M M6 : xMem} {h d w hg f nw nd hr : Nat} {paid : Int32} {post : xMem → Prop} (hR : Rel M h d w hg f nw nd) (hh : hr < 12) (hp : inN paid 2) (hf : rf w hg f nw M M6) (hK : ∀ M', rf w hg f nw M M' → M'.1 81 25 = (plS paid (pW M h) (pB M h hr) (pC M h hr) (2 ^ nw - 1)).1 → M'.1 81 26 = (plS paid (pW M h) (pB M h hr) (pC M h hr) (2 ^ nw - 1)).2 → post M') : w_X9_plans M6 (nI hr) paid post := by
  obtain ⟨r1, r2, r3, r4, r5, r6, r7, r8, r9, r10, r11, r12, r13⟩ := id hR
  have hb := (rB_bounds r3).2
  have hnw : nw ≤ 6 := r3.2.2.2.1
  have h64 : 2 ^ nw ≤ 2 ^ 6 := Nat.pow_le_pow_right (by decide) hnw
  have hnd : nd ≤ 8 := r3.2.2.2.2
  obtain ⟨f1, f2, f3, f4⟩ := id hf
  have g87 : M6.1 87 = M.1 87 := f1 87 (by omega) (by omega) (by omega)
  have g88 : M6.1 88 = M.1 88 := f1 88 (by omega) (by omega) (by omega)
  refine v_plans (n := w * hg) (nw := nw) (nd := nd) (W := pW M h) (B := pB M h hr) (C := pC M h hr) ((f2 20 (by omega) (by omega) (by omega)).trans r4.2.2.2.1) ((f2 21 (by omega) (by omega) (by omega)).trans r4.2.2.2.2.1) (by rw [g87]; exact r6.2.1) (by rw [g88]; exact r6.2.2) hb hnw hnd hh hp (fun s hs => by rw [g87]; exact r7.2.2.2.2.2.1 s hs) (fun s hs x hx => br_same hR g88 g87 f4 hh hs (fun i hi => by rw [nI_bits (by omega)]) hx) (fun s hs => by rw [g88]; exact pB_in hR hh hs) (fun M' a1 a2 a3 a4 a5 => hK M' ⟨fun j x y z => (a1 j y).trans (f1 j x y z), fun k x y z => (a2 k y z).trans (f2 k x y z), a3.trans f3, fun i hi => ?_⟩ a4 a5)
  rw [a1 89 (by omega)]
  exact f4 i hi
theorem rf_all {M M6 : xMem} {h d w hg f nw nd : Nat} {post : xMem → Prop} (hR : Rel M h d w hg f nw nd) (f1 : ∀ j, j ≠ 14 → j ≠ 81 → M6.1 j = M.1 j) (f2 : ∀ k, k ≠ 0 → M6.1 81 k = M.1 81 k) (f3 : M6.2 = M.2) (hK : ∀ M', rf w hg f nw M M' → post M') : w_X9_spreadsAll M6 post := by
  obtain ⟨r1, r2, r3, r4, r5, r6, r7, r8, r9, r10, r11, r12, r13⟩ := id hR
  have hb := (rB_bounds r3).2
  have g83 : M6.1 83 = M.1 83 := f1 83 (by omega) (by omega)
  have g87 : M6.1 87 = M.1 87 := f1 87 (by omega) (by omega)
  refine v_all ((f2 9 (by omega)).trans r4.1) ((f2 10 (by omega)).trans r4.2.1) ((f2 11 (by omega)).trans r4.2.2.1) ((f2 20 (by omega)).trans r4.2.2.2.1) (by rw [g83]; exact r6.1) (by rw [g87]; exact r6.2.1) r3.1.1 r3.1.2 (by have := r3.2.2.1; omega) hb r3.2.2.2.1 (fun M' a1 a2 a3 => hK M' ⟨fun j x y z => (a1 j z).trans (f1 j x y), fun k x y z => ?_, a2.trans f3, fun i hi => ?_⟩)
  · rw [a1 81 (by omega)]
    exact f2 k x
  · have g := a3 i hi
    rw [g83, g87] at g
    exact g
theorem rel_choose {M M6 : xMem} {h d w hg f nw nd hr : Nat} {paid : Int32} {post : xMem → Prop} (hR : Rel M h d w hg f nw nd) (hh : hr < 12) (f1 : ∀ j, j ≠ 14 → M6.1 j = M.1 j) (f3 : M6.2 = M.2) (hK : ∀ M', (∀ j, j ≠ 14 → M'.1 j = M.1 j) → M'.2 = M.2 → M'.1 14 2 = (plS paid (pW M h) (pB M h hr) (pC M h hr) (2 ^ nw - 1)).1 → M'.1 14 3 = (plS paid (pW M h) (pB M h hr) (pC M h hr) (2 ^ nw - 1)).2 → post M') : w_X4_choose M6 h (nI hr) paid post := by
  obtain ⟨r1, r2, r3, r4, r5, r6, r7, r8, r9, r10, r11, r12, r13⟩ := id hR
  obtain ⟨hx, e5, hk⟩ := Rel_h hR
  have hnd : nd ≤ 8 := r3.2.2.2.2
  have h256 : 2 ^ nd ≤ 2 ^ 8 := Nat.pow_le_pow_right (by decide) hnd
  have g15 : M6.1 15 = M.1 15 := f1 15 (by omega)
  have g20 : M6.1 (h + 20) = M.1 (h + 20) := f1 _ (by omega)
  have g21 : M6.1 (h + 21) = M.1 (h + 21) := f1 _ (by omega)
  have g22 : M6.1 (h + 22) = M.1 (h + 22) := f1 _ (by omega)
  refine u_choose hk (by rw [f1 h (by omega)]; exact r7.1.2.2.1) r3.2.2.2.1 hh (by omega) (fun s hs => ?_) (fun M' a1 a2 a3 a4 => hK M' (fun j hj => (a1 j hj).trans (f1 j hj)) (a2.trans f3) ?_ ?_)
  · rw [g15, g20]
    obtain ⟨k, k1, k2, _⟩ := pB_in hR hh hs
    exact ⟨k, by omega, k2⟩
  · rw [g15, g20, g21, g22] at a3
    exact a3
  · rw [g15, g20, g21, g22] at a4
    exact a4
theorem P_plan {M : xMem} (hR : RelE M) (a0 : Int32) (a1 : Int32) (a2 : Int32) {K : Int32 → xMem → Prop} (hK : ∀ r M1, (∀ K2 : Int32 → xMem → Prop, (∀ M2, RelE M2 → K2 r M2) → w_X9_plan M1 a0 a1 a2 K2) → K r M1) : w_X8_plan M a0 a1 a2 K := by
  obtain ⟨h, d, w, hg, f, nw, nd, hR⟩ := hR
  obtain ⟨hh, e5, hk⟩ := Rel_h hR
  have hthrE : RelE (xset M 81 0 0) := ⟨h, d, w, hg, f, nw, nd, Rel_thr hR⟩
  unfold w_X8_plan
  refine u_isHour (fun i0 => z_f ?_) (fun i0 => z_t (hK _ _ (fun K2 h2 => ?_)))
  · refine u_isBit (fun i1 => z_f ?_) (fun i1 => z_t (hK _ _ (fun K2 h2 => ?_)))
    · refine u_isBit (fun i2 => z_nf ?_) (fun i2 => z_nt (hK _ _ (fun K2 h2 => ?_)))
      · obtain ⟨hr, hr1, rfl⟩ := id i0
        rw [e5]
        refine rel_choose hR hr1 (fun _ _ => rfl) rfl (fun M' c1 c2 c3 c4 => ?_)
        have c3' : M'.1 (0 + 14) 2 = _ := c3
        have c4' : M'.1 (0 + 14) 3 = _ := c4
        have go : ∀ x, (¬ a2 = 0 → x = M'.1 14 3) → (a2 = 0 → x = M'.1 14 2) → K x M' := fun x x1 x0 => by
          refine hK _ _ (fun K2 h2 => ?_)
          unfold w_X9_plan
          intro M1 e1
          subst e1
          refine v_isHour (fun _ => z_f ?_) (fun q => absurd i0 q)
          refine v_isBit (fun _ => z_f ?_) (fun q => absurd i1 q)
          refine v_isBit (fun _ => z_nf ?_) (fun q => absurd i2 q)
          refine rf_all hR (fun j x y => by rw [m_row _ _ _ y]; exact c1 j x) (fun k x => by rw [m_col _ _ _ x, c1 81 (by omega)]) c2 (fun M6 hf => ?_)
          refine rf_plans hR hr1 i1 hf (fun M7 hf7 b1 b2 => ⟨fun q => ?_, fun q => ?_⟩)
          · rw [b2, ← c4, ← x1 q]
            exact h2 _ (rf_Rel hR hf7)
          · rw [b1, ← c3, ← x0 q]
            exact h2 _ (rf_Rel hR hf7)
        exact ⟨fun q => go _ (fun _ => rfl) (fun z => absurd z q), fun q => go _ (fun z => absurd q z) (fun _ => rfl)⟩
      · unfold w_X9_plan
        intro M1 e1
        subst e1
        refine v_isHour (fun _ => z_f ?_) (fun q => absurd i0 q)
        refine v_isBit (fun _ => z_f ?_) (fun q => absurd i1 q)
        exact v_isBit (fun q => absurd q i2) (fun _ => z_nt (h2 _ hthrE))
    · unfold w_X9_plan
      intro M1 e1
      subst e1
      refine v_isHour (fun _ => z_f ?_) (fun q => absurd i0 q)
      exact v_isBit (fun q => absurd q i1) (fun _ => z_t (h2 _ hthrE))
  · unfold w_X9_plan
    intro M1 e1
    subst e1
    exact v_isHour (fun q => absurd q i0) (fun _ => z_t (h2 _ hthrE))
def dayS (paid : Int32) (M : xMem) (h nw : Nat) : Nat → Int32
  | 0 => 0
  | n + 1 => dayS paid M h nw n + (plS paid (pW M h) (pB M h n) (pC M h n) (2 ^ nw - 1)).2
theorem u_day {M M6 : xMem} {h d w hg f nw nd : Nat} {paid : Int32} {post : Int32 → xMem → Prop} (hR : Rel M h d w hg f nw nd) (f1 : ∀ j, j ≠ 14 → M6.1 j = M.1 j) (f3 : M6.2 = M.2) (hK : ∀ M', (∀ j, j ≠ 14 → M'.1 j = M.1 j) → M'.2 = M.2 → post (dayS paid M h nw 12) M') : w_X4_wholeDay M6 h paid post := by
  unfold w_X4_wholeDay
  refine xlp5_of (I := fun M' a b x q => a = h ∧ b = paid ∧ ∃ k, k ≤ 12 ∧ q = nI k ∧ x = dayS paid M h nw k ∧ (∀ j, j ≠ 14 → M'.1 j = M.1 j) ∧ M'.2 = M.2) (mu := fun _ _ _ _ q => 12 - q.toNatClampNeg) ?_ ⟨rfl, rfl, 0, by omega, rfl, rfl, f1, f3⟩
  intro r M' a b x q hI hr
  obtain ⟨rfl, rfl, k, hk, rfl, rfl, g1, g2⟩ := hI
  unfold b_X4_wholeDay_5
  refine ⟨fun q => ?_, fun q => ?_⟩
  · have e : k = 12 := Nat.le_antisymm hk ((li_le (n := 12) (by omega) (by decide)).mp q)
    subst e
    exact hK M' g1 g2
  · have hl : k < 12 := Nat.lt_of_not_le (fun q2 => q ((li_le (by omega) (by decide)).mpr q2))
    refine rel_choose hR hl g1 g2 (fun M3 c1 c2 c3 c4 => ?_)
    rw [nI_1, c4]
    refine hr _ _ _ _ _ ⟨rfl, rfl, k + 1, hl, rfl, rfl, c1, c2⟩ ?_
    show 12 - (nI (k + 1)).toNatClampNeg < 12 - (nI k).toNatClampNeg
    rw [nI_clamp (by omega), nI_clamp (by omega)]
    omega
theorem v_day {M M6 : xMem} {h d w hg f nw nd : Nat} {paid : Int32} {post : Int32 → xMem → Prop} (hR : Rel M h d w hg f nw nd) (hp : inN paid 2) (f1 : ∀ j, j ≠ 14 → j ≠ 81 → M6.1 j = M.1 j) (f2 : ∀ k, k ≠ 0 → M6.1 81 k = M.1 81 k) (f3 : M6.2 = M.2) (hK : ∀ M', rf w hg f nw M M' → post (dayS paid M h nw 12) M') : w_X9_dayOf M6 paid post := by
  unfold w_X9_dayOf
  refine rf_all hR f1 f2 f3 (fun M7 hf => ?_)
  refine xlp4_of (I := fun M' b x q => b = paid ∧ ∃ k, k ≤ 12 ∧ q = nI k ∧ x = dayS paid M h nw k ∧ rf w hg f nw M M') (mu := fun _ _ _ q => 12 - q.toNatClampNeg) ?_ ⟨rfl, 0, by omega, rfl, rfl, hf⟩
  intro r M' b x q hI hr
  obtain ⟨rfl, k, hk, rfl, rfl, g⟩ := hI
  unfold b_X9_dayOf_8
  refine ⟨fun q => ?_, fun q => ?_⟩
  · have e : k = 12 := Nat.le_antisymm hk ((li_le (n := 12) (by omega) (by decide)).mp q)
    subst e
    exact hK M' g
  · have hl : k < 12 := Nat.lt_of_not_le (fun q2 => q ((li_le (by omega) (by decide)).mpr q2))
    refine rf_plans hR hl hp g (fun M3 g3 c3 c4 => ?_)
    rw [nI_1, c4]
    refine hr _ _ _ _ ⟨rfl, k + 1, hl, rfl, rfl, g3⟩ ?_
    show 12 - (nI (k + 1)).toNatClampNeg < 12 - (nI k).toNatClampNeg
    rw [nI_clamp (by omega), nI_clamp (by omega)]
    omega
theorem P_day {M : xMem} (hR : RelE M) (a0 : Int32) {K : Int32 → xMem → Prop} (hK : ∀ r M1, (∀ K2 : Int32 → xMem → Prop, (∀ M2, RelE M2 → K2 r M2) → w_X9_day M1 a0 K2) → K r M1) : w_X8_day M a0 K := by
  obtain ⟨h, d, w, hg, f, nw, nd, hR⟩ := hR
  obtain ⟨hh, e5, hk⟩ := Rel_h hR
  have hthrE : RelE (xset M 81 0 0) := ⟨h, d, w, hg, f, nw, nd, Rel_thr hR⟩
  unfold w_X8_day
  refine u_isBit (fun i0 => z_nf ?_) (fun i0 => z_nt (hK _ _ (fun K2 h2 => ?_)))
  · rw [e5]
    refine u_day hR (fun _ _ => rfl) rfl (fun M' c1 c2 => hK _ _ (fun K2 h2 => ?_))
    unfold w_X9_day
    intro M1 e1
    subst e1
    refine v_isBit (fun _ => z_f ?_) (fun q => absurd i0 q)
    exact v_day hR i0 (fun j x y => by rw [m_row _ _ _ y]; exact c1 j x) (fun k x => by rw [m_col _ _ _ x, c1 81 (by omega)]) c2 (fun M7 g => h2 _ (rf_Rel hR g))
  · unfold w_X9_day
    intro M1 e1
    subst e1
    exact v_isBit (fun q => absurd q i0) (fun _ => z_t (h2 _ hthrE))
