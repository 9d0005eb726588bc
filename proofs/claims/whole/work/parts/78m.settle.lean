/-! the class settles: hours that deeds hold in, worths, prices -/
theorem bitsOf_zero {n : Nat} {P : Nat → Prop} (h : ∀ j, j < n → ¬ P j) : bitsOf 0 n P := ⟨0, Nat.two_pow_pos n, rfl, fun j hj => by
  rw [Nat.zero_testBit]
  exact ⟨fun z => absurd z (by decide), fun z => absurd z (h j hj)⟩⟩
theorem bitsOf_put {x : Int32} {n j : Nat} {P : Nat → Prop} (hn : n ≤ 31) (hj : j < n) (h : bitsOf x n P) : bitsOf (x ||| ((1 : Int32) <<< (nI j &&& (31 : Int32)))) n (fun i => P i ∨ i = j) := by
  obtain ⟨k, h1, rfl, h3⟩ := h
  have h31 : 2 ^ n ≤ 2 ^ 31 := Nat.pow_le_pow_right (by decide) hn
  have h2 : 2 ^ j < 2 ^ n := Nat.pow_lt_pow_right (by decide) hj
  refine ⟨k ||| 2 ^ j, Nat.or_lt_two_pow h1 h2, by rw [bit_one (by omega), nI_or (by omega) (by omega)], fun i hi => ?_⟩
  rw [Nat.testBit_or, Nat.testBit_two_pow, Bool.or_eq_true, decide_eq_true_eq]
  exact or_congr (h3 i hi) ⟨fun e => e.symm, fun e => e.symm⟩
theorem u_isOwned {M : xMem} {d nd h : Nat} {y : Int32} {B : Nat → Prop} {dd : Nat → Int32} {post : Int32 → xMem → Prop} (hh : d = 35 ∨ d = 58) (hnd : nd ≤ 8) (hh12 : h < 12) (c3 : M.1 d 3 = nI nd) (hdd : ∀ i, i < nd → M.1 (d + (12 + i)) 0 = dd (5 * i)) (hB : bitsOf (M.1 (d + 20) h) nd B) (h1 : (∃ e, e < nd ∧ B e ∧ dd (5 * e) = y) → post 1 M) (h0 : ¬ (∃ e, e < nd ∧ B e ∧ dd (5 * e) = y) → post 0 M) : w_X2_isOwned M d y (nI h) post := by
  have kh : kd d = 2 := by rcases hh with rfl | rfl <;> decide
  have z0 : (0 : Int32).toNatClampNeg = 0 := by decide
  unfold w_X2_isOwned
  refine ⟨kh, ?_⟩
  refine xlp4_of (I := fun M' a b q => M' = M ∧ a = y ∧ b = nI h ∧ ∃ k, k ≤ nd ∧ q = nI k ∧ ∀ e, e < k → ¬ (B e ∧ dd (5 * e) = y)) (mu := fun _ _ _ q => nd - q.toNatClampNeg) ?_ ⟨rfl, rfl, rfl, 0, Nat.zero_le _, rfl, fun e he => absurd he (Nat.not_lt_zero _)⟩
  intro r M' a b q hI hr
  obtain ⟨rfl, rfl, rfl, k, hk, rfl, hI⟩ := hI
  unfold b_X2_isOwned_2
  rw [c3]
  refine ⟨fun q => ?_, fun q => ?_⟩
  · have e : k = nd := Nat.le_antisymm hk ((nI_cond (by omega) (by omega)).mp q)
    subst e
    exact h0 (fun ⟨e, e1, e2⟩ => hI e e1 e2)
  · have hl : k < nd := Nat.lt_of_not_le (fun q2 => q ((nI_cond (by omega) (by omega)).mpr q2))
    obtain ⟨g1, g0⟩ := bitsOf_get (by omega) hB hl
    have nx : ¬ (B k ∧ dd (5 * k) = a) → b_X2_isOwned_37 post d r M' a (nI h) (nI k) := fun c => by
      unfold b_X2_isOwned_37
      rw [nI_1]
      refine hr _ _ _ _ ⟨rfl, rfl, rfl, k + 1, hl, rfl, fun e he => ?_⟩ ?_
      · by_cases ee : e = k
        · rw [ee]
          exact c
        · exact hI e (by omega)
      · show nd - (nI (k + 1)).toNatClampNeg < nd - (nI k).toNatClampNeg
        rw [nI_clamp (by omega), nI_clamp (by omega)]
        omega
    rw [nI_clamp (by omega), nI_clamp (by omega), z0, show d + 11 + 1 + k = d + (12 + k) by omega, hdd k hl]
    refine ⟨vp_in_nI hh12 (by omega), fun z => nx (fun c => ?_), fun z => ⟨vp_in_nI (by omega) (by omega), fun ne => nx (fun c => ne c.2), fun e => h1 ⟨k, hl, Classical.byContradiction (fun nb => z (g0 nb)), e⟩⟩⟩
    rw [g1 c.1] at z
    exact absurd z (by decide)
theorem own_iff {dd : Nat → Int32} {k t : Nat} (hr : (dd (5 * k + 1)).toInt ≤ t ∧ (t : Int) ≤ (dd (5 * k + 2)).toInt) : (∃ e, e < k ∧ dHold dd e t ∧ dd (5 * e) = dd (5 * k)) ↔ ¬ dHold dd k t := by
  constructor
  · rintro ⟨e, e1, e2, e3⟩ c
    exact c.2 e e1 ⟨e3, e2.1⟩
  · intro h
    have h' : ∃ e, e < k ∧ (dd (5 * e) = dd (5 * k) ∧ (dd (5 * e + 1)).toInt ≤ t ∧ (t : Int) ≤ (dd (5 * e + 2)).toInt) := Classical.byContradiction (fun z => h ⟨hr, fun e he c => z ⟨e, he, c⟩⟩)
    obtain ⟨e, he⟩ := h'
    obtain ⟨j, ⟨j1, j2, j3⟩, j4⟩ := sp_least (fun e => e < k ∧ (dd (5 * e) = dd (5 * k) ∧ (dd (5 * e + 1)).toInt ≤ t ∧ (t : Int) ≤ (dd (5 * e + 2)).toInt)) e he
    refine ⟨j, j1, ⟨j3, fun i hi c => ?_⟩, j2⟩
    have := j4 i ⟨by omega, c.1.trans j2, c.2⟩
    omega
/-- frames of settling -/
def sF (M M' : xMem) (d : Nat) : Prop := (∀ j, ¬ (d + 12 ≤ j ∧ j ≤ d + 22) → M'.1 j = M.1 j) ∧ M'.2 = M.2 ∧ ∀ i k, i < 8 → k ≠ 5 → M'.1 (d + (12 + i)) k = M.1 (d + (12 + i)) k
def sH (M' : xMem) (d nd k t : Nat) (dd : Nat → Int32) : Prop := ∀ h, h < 12 → bitsOf (M'.1 (d + 20) h) nd (fun e => dHold dd e h ∧ (e < k ∨ (e = k ∧ h < t)))
theorem u_settleH {M0 M : xMem} {d nd n k : Nat} {dd : Nat → Int32} {post : xMem → Prop} (hh : d = 35 ∨ d = 58) (hnd : nd ≤ 8) (hk : k < nd) (hD : rD n nd dd) (c3 : M0.1 d 3 = nI nd) (hdd : ∀ i c, i < nd → c < 5 → M0.1 (d + (12 + i)) c = dd (5 * i + c)) (hF : sF M0 M d) (hz : ∀ j, (j = d + 21 ∨ j = d + 22) → M.1 j = M0.1 j) (hH : sH M d nd k 0 dd) (hrows : ∀ i, i < k → bitsOf (M.1 (d + (12 + i)) 5) 12 (fun h => dHold dd i h)) (hK : ∀ M', sF M0 M' d → (∀ j, (j = d + 21 ∨ j = d + 22) → M'.1 j = M0.1 j) → sH M' d nd (k + 1) 0 dd → (∀ i, i < k + 1 → bitsOf (M'.1 (d + (12 + i)) 5) 12 (fun h => dHold dd i h)) → post M') : w_X2_settleHours M d (nI k) post := by
  have kh : kd d = 2 := by rcases hh with rfl | rfl <;> decide
  obtain ⟨d10, d6⟩ := row_d hh (show k < 8 by omega)
  have z0 : (0 : Int32).toNatClampNeg = 0 := by decide
  have z1 : (1 : Int32).toNatClampNeg = 1 := by decide
  have z2 : (2 : Int32).toNatClampNeg = 2 := by decide
  have z5 : (5 : Int32).toNatClampNeg = 5 := by decide
  obtain ⟨-, ⟨f0, f1, f2⟩, ⟨l0, l1, l2⟩, fl', -⟩ := hD k hk
  have f2i : (dd (5 * k + 1)).toInt = f0 := by rw [f2, q_toI _ (by omega)]
  have l2i : (dd (5 * k + 2)).toInt = l0 := by rw [l2, q_toI _ (by omega)]
  have ed : d + 11 + 1 + k = d + (12 + k) := by omega
  rw [ed] at d10 d6
  unfold w_X2_settleHours
  rw [nI_clamp (by omega), z1, z5, ed]
  refine ⟨kh, vp_in_nI (by omega) (by omega), fun M2 e2 v3 e3 => ?_⟩
  have g2 : ∀ j, j ≠ d + (12 + k) → M2.1 j = M.1 j := fun j hj => by rw [e2, m_row _ _ _ hj]
  have F2 : sF M0 M2 d := ⟨fun j hj => (g2 j (by omega)).trans (hF.1 j hj), by rw [e2, m_snd]; exact hF.2.1, fun i c hi hc => by
    by_cases e : i = k
    · rw [e, e2, m_col _ _ _ hc]
      exact hF.2.2 k c (by omega) hc
    · rw [g2 _ (by omega)]
      exact hF.2.2 i c hi hc⟩
  have e3' : v3 = nI f0 := by
    rw [e3, F2.2.2 k 1 (by omega) (by omega), hdd k 1 hk (by omega)]
    exact f2
  rw [e3']
  refine xlp4_of (I := fun M' a b q => a = nI k ∧ b = d + (12 + k) ∧ ∃ t, f0 ≤ t ∧ t ≤ 12 ∧ q = nI t ∧ sF M0 M' d ∧ (∀ j, (j = d + 21 ∨ j = d + 22) → M'.1 j = M0.1 j) ∧ sH M' d nd k t dd ∧ (∀ i, i < k → bitsOf (M'.1 (d + (12 + i)) 5) 12 (fun h => dHold dd i h)) ∧ bitsOf (M'.1 (d + (12 + k)) 5) 12 (fun h => dHold dd k h ∧ h < t)) (mu := fun _ _ _ q => 12 - q.toNatClampNeg) ?_ ⟨rfl, rfl, f0, Nat.le_refl _, by omega, rfl, F2, fun j hj => (g2 j (by omega)).trans (hz j hj), fun h hh' => ?_, fun i hi => by rw [g2 _ (by omega)]; exact hrows i hi, ?_⟩
  · intro r M' a b q hI hr
    obtain ⟨rfl, rfl, t, t1, t2, rfl, F, Z, H, R, W⟩ := hI
    have fd : ∀ i c, i < nd → c < 5 → M'.1 (d + (12 + i)) c = dd (5 * i + c) := fun i c hi hc => (F.2.2 i c (by omega) (by omega)).trans (hdd i c hi hc)
    have fin : l0 < t → post M' := fun hlt => by
      refine hK M' F Z (fun h hh' => bitsOf_cong (H h hh') (fun e he => ?_)) (fun i hi => ?_)
      · refine and_congr_right (fun hd => ?_)
        constructor
        · rintro (q | ⟨q, -⟩) <;> omega
        · rintro (q | ⟨q, q'⟩)
          · by_cases ek : e = k
            · subst ek
              have := hd.1.2
              rw [l2i] at this
              exact Or.inr ⟨rfl, by omega⟩
            · exact Or.inl (by omega)
          · omega
      · by_cases ek : i = k
        · rw [ek]
          refine bitsOf_cong W (fun h hh' => ⟨fun q => q.1, fun q => ⟨q, ?_⟩⟩)
          have := q.1.2
          rw [l2i] at this
          omega
        · exact R i (by omega)
    unfold b_X2_settleHours_15
    rw [z2, z0, z5, d6, fd k 2 hk (by omega), fd k 0 hk (by omega), show dd (5 * k + 2) = nI l0 from l2]
    refine ⟨d10, q_in (k := 2) (by omega) (by omega), fun q => fin ((nI_ltI (by omega) (by omega)).mp q), fun q => ⟨fun q2 => fin (by have := (li_le (n := 12) (k := t) (by omega) (by decide)).mp q2; omega), fun q2 => ?_⟩⟩
    have hle : t ≤ l0 := Nat.le_of_not_lt (fun z => q ((nI_ltI (by omega) (by omega)).mpr z))
    have hr' : (dd (5 * k + 1)).toInt ≤ t ∧ (t : Int) ≤ (dd (5 * k + 2)).toInt := by rw [f2i, l2i]; omega
    have owk := own_iff hr'
    have nx : ∀ M3, sF M0 M3 d → (∀ j, (j = d + 21 ∨ j = d + 22) → M3.1 j = M0.1 j) → sH M3 d nd k (t + 1) dd → (∀ i, i < k → bitsOf (M3.1 (d + (12 + i)) 5) 12 (fun h => dHold dd i h)) → bitsOf (M3.1 (d + (12 + k)) 5) 12 (fun h => dHold dd k h ∧ h < t + 1) → b_X2_settleHours_63 post d r M3 (nI k) (d + (12 + k)) (nI t) := fun M3 a1 a2 a3 a4 a5 => by
      unfold b_X2_settleHours_63
      rw [nI_1]
      refine hr _ _ _ _ ⟨rfl, rfl, t + 1, by omega, by omega, rfl, a1, a2, a3, a4, a5⟩ ?_
      show 12 - (nI (t + 1)).toNatClampNeg < 12 - (nI t).toNatClampNeg
      rw [nI_clamp (by omega), nI_clamp (by omega)]
      omega
    have hB := H t (by omega)
    refine ⟨q_in (k := 0) (by omega) (by omega), u_isOwned (nd := nd) (dd := dd) hh hnd (by omega) (by rw [F.1 d (by omega)]; exact c3) (fun i hi => fd i 0 hi (by omega)) hB (fun ow => z_f ?_) (fun now => z_t ?_)⟩
    · have hn : ¬ dHold dd k t := owk.mp (by
        obtain ⟨e, e1, e2, e3⟩ := ow
        exact ⟨e, by rcases e2.2 with q | q <;> omega, e2.1, e3⟩)
      refine nx M' F Z (fun h hh' => bitsOf_cong (H h hh') (fun e he => and_congr_right (fun hd => ?_))) R (bitsOf_cong W (fun h hh' => and_congr_right (fun hd => ?_)))
      · constructor
        · rintro (q | ⟨q, q'⟩)
          · exact Or.inl q
          · exact Or.inr ⟨q, by omega⟩
        · rintro (q | ⟨q, q'⟩)
          · exact Or.inl q
          · refine Or.inr ⟨q, ?_⟩
            by_cases eh : h = t
            · rw [q, eh] at hd
              exact absurd hd hn
            · omega
      · constructor
        · intro q
          omega
        · intro q
          by_cases eh : h = t
          · rw [eh] at hd
            exact absurd hd hn
          · omega
    · have hy : dHold dd k t := Classical.byContradiction (fun z => now (by
        obtain ⟨e, e1, e2, e3⟩ := owk.mpr z
        exact ⟨e, by omega, ⟨e2, Or.inl e1⟩, e3⟩))
      refine ⟨q_in (k := 5) (by omega) (by omega), fun M10 e10 => ⟨vp_in_nI (by omega) (by omega), fun M12 e12 => ?_⟩⟩
      rw [nI_clamp (by omega)] at e12
      have g10 : ∀ j, j ≠ d + (12 + k) → M10.1 j = M'.1 j := fun j hj => by rw [e10, m_row _ _ _ hj]
      have g12 : ∀ j, j ≠ d + 20 → M12.1 j = M10.1 j := fun j hj => by rw [e12, m_row _ _ _ hj]
      refine nx M12 ⟨fun j hj => by rw [g12 j (by omega), g10 j (by omega)]; exact F.1 j hj, by rw [e12, m_snd, e10, m_snd]; exact F.2.1, fun i c hi hc => ?_⟩ (fun j hj => by rw [g12 j (by omega), g10 j (by omega)]; exact Z j hj) (fun h hh' => ?_) (fun i hi => by rw [g12 _ (by omega), g10 _ (by omega)]; exact R i hi) ?_
      · rw [g12 _ (by omega)]
        by_cases e : i = k
        · rw [e, e10, m_col _ _ _ hc]
          exact F.2.2 k c (by omega) hc
        · rw [g10 _ (by omega)]
          exact F.2.2 i c hi hc
      · by_cases eh : h = t
        · rw [eh, e12, m_same, g10 _ (by omega)]
          refine bitsOf_cong (bitsOf_put (by omega) hk (H t (by omega))) (fun e he => ?_)
          constructor
          · rintro (⟨q, q'⟩ | q)
            · exact ⟨q, by omega⟩
            · rw [q]
              exact ⟨hy, Or.inr ⟨rfl, by omega⟩⟩
          · rintro ⟨q, q' | ⟨q', -⟩⟩
            · exact Or.inl ⟨q, Or.inl q'⟩
            · exact Or.inr q'
        · rw [e12, m_col _ _ _ eh, g10 _ (by omega)]
          refine bitsOf_cong (H h hh') (fun e he => and_congr_right (fun hd => ?_))
          constructor
          · rintro (q | ⟨q, q'⟩)
            · exact Or.inl q
            · exact Or.inr ⟨q, by omega⟩
          · rintro (q | ⟨q, q'⟩)
            · exact Or.inl q
            · exact Or.inr ⟨q, by omega⟩
      · rw [g12 _ (by omega), e10, m_same]
        refine bitsOf_cong (bitsOf_put (by omega) (show t < 12 by omega) W) (fun h hh' => ?_)
        constructor
        · rintro (⟨q, q'⟩ | q)
          · exact ⟨q, by omega⟩
          · rw [q]
            exact ⟨hy, by omega⟩
        · rintro ⟨q, q'⟩
          by_cases eh : h = t
          · exact Or.inr eh
          · exact Or.inl ⟨q, by omega⟩
  · rw [g2 _ (by omega)]
    refine bitsOf_cong (hH h hh') (fun e he => and_congr_right (fun hd => ?_))
    constructor
    · rintro (q | ⟨q, q'⟩)
      · exact Or.inl q
      · omega
    · rintro (q | ⟨q, q'⟩)
      · exact Or.inl q
      · have := hd.1.1
        rw [q, f2i] at this
        omega
  · rw [e2, m_same]
    refine bitsOf_zero (fun h hh' q => ?_)
    have := q.1.1.1
    rw [f2i] at this
    have := q.2
    omega
theorem sumB_up {v : Nat → Int32} {k i : Nat} (hk : k < 2 ^ i) : sumB v (2 ^ i + k) (i + 1) = sumB v k i + v i := by
  have hb : ∀ n, n ≤ i → sumB v (2 ^ i + k) n = sumB v k n := fun n => by
    induction n with
    | zero => exact fun _ => rfl
    | succ n ih =>
      intro hn
      unfold sumB
      rw [ih (by omega), Nat.testBit_two_pow_add_gt (by omega)]
  have ht : (2 ^ i + k).testBit i = true := by
    rw [Nat.testBit_two_pow_add_eq, Nat.testBit_lt_two_pow hk]
    rfl
  show (if (2 ^ i + k).testBit i = true then sumB v (2 ^ i + k) i + v i else sumB v (2 ^ i + k) i) = _
  rw [if_pos ht, hb i (Nat.le_refl _)]
theorem sumB_high {v : Nat → Int32} {k i : Nat} (hk : k < 2 ^ i) : sumB v k (i + 1) = sumB v k i := by
  show (if k.testBit i = true then sumB v k i + v i else sumB v k i) = _
  rw [Nat.testBit_lt_two_pow hk, if_neg (by decide)]
