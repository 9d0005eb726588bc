/-! what sets would break: the class weighs; it listens -/
def wP (lf : Nat → Nat → Int32) (wk dd : Nat → Int32) (n s d : Nat) : Prop := (dd (5 * d + 3)).toInt < (heardS lf wk (dd (5 * d)).toNatClampNeg true s n).toInt
def wQ (lf : Nat → Nat → Int32) (wk dd : Nat → Int32) (nw i k s d : Nat) : Prop := if d = k then wP lf wk dd i s k else wP lf wk dd nw s d
theorem row_w {h i : Nat} (hh : h = 35 ∨ h = 58) (hi : i < 6) : kd (h + 4 + 1 + i) = 10 ∧ ln (h + 4 + 1 + i) = 4 := by
  have a : ∀ i, i < 6 → (kd (35 + 4 + 1 + i) = 10 ∧ ln (35 + 4 + 1 + i) = 4) ∧ (kd (58 + 4 + 1 + i) = 10 ∧ ln (58 + 4 + 1 + i) = 4) := by decide
  rcases hh with rfl | rfl
  · exact (a i hi).1
  · exact (a i hi).2
theorem row_d {h i : Nat} (hh : h = 35 ∨ h = 58) (hi : i < 8) : kd (h + 11 + 1 + i) = 10 ∧ ln (h + 11 + 1 + i) = 6 := by
  have a : ∀ i, i < 8 → (kd (35 + 11 + 1 + i) = 10 ∧ ln (35 + 11 + 1 + i) = 6) ∧ (kd (58 + 11 + 1 + i) = 10 ∧ ln (58 + 11 + 1 + i) = 6) := by decide
  rcases hh with rfl | rfl
  · exact (a i hi).1
  · exact (a i hi).2
theorem u_weigh {M : xMem} {h nw nd n : Nat} {wk dd : Nat → Int32} {post : xMem → Prop} (hh : h = 35 ∨ h = 58) (hn : n ≤ 48) (hnw : nw ≤ 6) (hnd : nd ≤ 8) (hD : rD n nd dd) (e2 : M.1 h 2 = nI nw) (e3 : M.1 h 3 = nI nd) (hwk : ∀ i, i < nw → M.1 (h + (5 + i)) 0 = wk (4 * i)) (hdd : ∀ i k, i < nd → k < 5 → M.1 (h + (12 + i)) k = dd (5 * i + k)) (hz : M.1 16 0 = 0) (hK : ∀ M', (∀ j, j ≠ 15 → j ≠ 16 → M'.1 j = M.1 j) → M'.2 = M.2 → M'.1 16 0 = 0 → rBr nw nd (M'.1 15) (fun i => M.1 (7 + i)) wk dd → post M') : w_X4_weigh M h 6 post := by
  have kh : kd h = 2 := by rcases hh with rfl | rfl <;> decide
  have c0 : (0 : Int32).toNatClampNeg = 0 := by decide
  have c3 : (3 : Int32).toNatClampNeg = 3 := by decide
  have h64 : 2 ^ nw ≤ 2 ^ 6 := Nat.pow_le_pow_right (by decide) hnw
  unfold w_X4_weigh
  refine c_fill (by decide) (by decide) (fun M2 a1 a2 a3 a4 => ?_)
  have l15 : ln (14 + 1) = 64 := by decide
  rw [l15] at a4
  refine xlp4_of (I := fun M' a b q => a = h ∧ b = 6 ∧ ∃ k, k ≤ nd ∧ q = nI k ∧ (∀ j, j ≠ 15 → j ≠ 16 → M'.1 j = M.1 j) ∧ M'.2 = M.2 ∧ M'.1 16 0 = 0 ∧ ∀ s, s < 2 ^ nw → bitsOf (M'.1 15 s) k (wP (fun i => M.1 (7 + i)) wk dd nw s)) (mu := fun _ _ _ q => nd - q.toNatClampNeg) ?_ ⟨rfl, rfl, 0, Nat.zero_le _, rfl, fun j x y => a1 j x, a2, by rw [a1 16 (by omega)]; exact hz, fun s hs => by rw [a4 s (by omega)]; exact bitsOf_0⟩
  intro r M' a b q hI hr
  obtain ⟨rfl, rfl, k, hk, rfl, g1, g2, g3, g4⟩ := hI
  have gh : ∀ j, j < 23 → M'.1 (a + j) = M.1 (a + j) := fun j _ => g1 _ (by omega) (by omega)
  unfold b_X4_weigh_10
  rw [show M'.1 a 3 = nI nd by rw [g1 a (by omega) (by omega)]; exact e3]
  refine ⟨kh, fun q => ?_, fun q => ?_⟩
  · have e : k = nd := Nat.le_antisymm hk ((nI_cond (by omega) (by omega)).mp q)
    subst e
    exact hK M' g1 g2 g3 g4
  · have hl : k < nd := Nat.lt_of_not_le (fun q2 => q ((nI_cond (by omega) (by omega)).mpr q2))
    obtain ⟨d10, d6⟩ := row_d hh (show k < 8 by omega)
    obtain ⟨⟨y, y1, y2⟩, -, -, -, ⟨lm, lm1, lm2⟩, -⟩ := hD k hl
    have hy : (dd (5 * k)).toNatClampNeg = y := by rw [y2, nI_clamp (by omega)]
    refine ⟨vp_in_nI (by omega) (by omega), ?_⟩
    rw [nI_clamp (by omega)]
    refine xlp6_of (I := fun M1 b1 b2 b3 b4 q => b1 = a ∧ b2 = 6 ∧ b3 = nI k ∧ b4 = a + 11 + 1 + k ∧ ∃ i, i ≤ nw ∧ q = nI i ∧ (∀ j, j ≠ 15 → j ≠ 16 → M1.1 j = M.1 j) ∧ M1.2 = M.2 ∧ (∀ s, s < 2 ^ i → M1.1 16 s = heardS (fun i => M.1 (7 + i)) wk y true s i ∧ bitsOf (M1.1 15 s) (k + 1) (wQ (fun i => M.1 (7 + i)) wk dd nw i k s)) ∧ ∀ s, 2 ^ i ≤ s → s < 2 ^ nw → bitsOf (M1.1 15 s) k (wP (fun i => M.1 (7 + i)) wk dd nw s)) (mu := fun _ _ _ _ _ q => nw - q.toNatClampNeg) ?_ ⟨rfl, rfl, rfl, rfl, 0, Nat.zero_le _, rfl, g1, g2, fun s hs => ?_, fun s _ hs => g4 s hs⟩
    · intro r2 M1 b1 b2 b3 b4 q hI hr2
      obtain ⟨rfl, rfl, rfl, rfl, i, hi, rfl, f1, f2, f3, f4⟩ := hI
      have fh : ∀ j, j < 23 → M1.1 (b1 + j) = M.1 (b1 + j) := fun j _ => f1 _ (by omega) (by omega)
      have fd : ∀ c, c < 5 → M1.1 (b1 + 11 + 1 + k) c = dd (5 * k + c) := fun c hc => by
        rw [show b1 + 11 + 1 + k = b1 + (12 + k) by omega, fh _ (by omega)]
        exact hdd k c hl hc
      unfold b_X4_weigh_29
      rw [show M1.1 b1 2 = nI nw by rw [f1 b1 (by omega) (by omega)]; exact e2]
      refine ⟨kh, fun q => ?_, fun q => ?_⟩
      · have e : i = nw := Nat.le_antisymm hi ((nI_cond (by omega) (by omega)).mp q)
        subst e
        rw [nI_1]
        refine hr M1 _ _ _ ⟨rfl, rfl, k + 1, hl, rfl, f1, f2, (f3 0 (Nat.two_pow_pos _)).1.trans ?_, fun s hs => bitsOf_cong (f3 s hs).2 (fun j hj => ?_)⟩ ?_
        · have : ∀ m, heardS (fun i => M.1 (7 + i)) wk y true 0 m = 0 := fun m => by
            induction m with
            | zero => rfl
            | succ m ih =>
              show (if (0 : Nat).testBit m = true ∧ ¬ (true = true ∧ wk (4 * m) = nI y) then heardS (fun i => M.1 (7 + i)) wk y true 0 m + M.1 (7 + m) y else heardS (fun i => M.1 (7 + i)) wk y true 0 m) = 0
              rw [Nat.zero_testBit, if_neg (fun z => absurd z.1 (by decide))]
              exact ih
          exact this _
        · unfold wQ
          by_cases e : j = k
          · rw [if_pos e, e]
          · rw [if_neg e]
        · show nd - (nI (k + 1)).toNatClampNeg < nd - (nI k).toNatClampNeg
          rw [nI_clamp (by omega), nI_clamp (by omega)]
          omega
      · have hli : i < nw := Nat.lt_of_not_le (fun q2 => q ((nI_cond (by omega) (by omega)).mpr q2))
        obtain ⟨r10, r48⟩ := row_7 (show i < 6 by omega)
        have hp2 : 2 ^ (i + 1) ≤ 2 ^ nw := Nat.pow_le_pow_right (by decide) hli
        have hps : 2 ^ (i + 1) = 2 ^ i + 2 ^ i := by rw [Nat.pow_succ]; omega
        have fin : ∀ more, more = (if wk (4 * i) = nI y then 0 else M.1 (7 + i) y) → b_X4_weigh_79 post r r2 M1 b1 6 (nI k) (b1 + 11 + 1 + k) (nI i) more := fun more hm => by
          unfold b_X4_weigh_79
          rw [bit_one (by omega), bit_one (by omega), nI_1, c3, fd 3 (by omega), d6]
          refine ⟨d10, q_in (k := 3) (by omega) (by omega), u_addWorker (by omega) (by omega) (fun M4 x1 x2 x3 x4 => hr2 M4 _ _ _ _ _ ⟨rfl, rfl, rfl, rfl, i + 1, hli, rfl, fun j p q => (x1 j p q).trans (f1 j p q), x2.trans f2, fun s hs => ?_, fun s hs1 hs2 => ?_⟩ ?_)⟩
          · by_cases hs1 : s < 2 ^ i
            · obtain ⟨v1, v2⟩ := f3 s hs1
              rw [(x3 s (Or.inl hs1)).1, (x3 s (Or.inl hs1)).2, heardS_high hs1]
              refine ⟨v1, bitsOf_cong v2 (fun j hj => ?_)⟩
              unfold wQ
              by_cases e : j = k
              · rw [if_pos e, if_pos e]
                unfold wP
                rw [heardS_high hs1]
              · rw [if_neg e, if_neg e]
            · obtain ⟨t, rfl⟩ : ∃ t, s = 2 ^ i + t := ⟨s - 2 ^ i, by omega⟩
              have ht : t < 2 ^ i := by omega
              obtain ⟨w1, w2⟩ := x4 t ht
              obtain ⟨v1, -⟩ := f3 t ht
              have hsum : M1.1 16 t + more = heardS (fun i => M.1 (7 + i)) wk y true (2 ^ i + t) (i + 1) := by
                rw [heardS_up ht, v1, hm]
              have old : bitsOf (M1.1 15 (2 ^ i + t)) k (wQ (fun i => M.1 (7 + i)) wk dd nw (i + 1) k (2 ^ i + t)) := bitsOf_cong (f4 _ (by omega) (by omega)) (fun j hj => by
                unfold wQ
                rw [if_neg (by omega)])
              have qk : wQ (fun i => M.1 (7 + i)) wk dd nw (i + 1) k (2 ^ i + t) k ↔ (dd (5 * k + 3)).toInt < (M1.1 16 t + more).toInt := by
                unfold wQ wP
                rw [if_pos rfl, hy, hsum]
              refine ⟨w1.trans hsum, ?_⟩
              rw [w2]
              by_cases c : M1.1 16 t + more ≤ dd (5 * k + 3)
              · rw [if_pos c]
                refine bitsOf_skip old (fun z => ?_)
                have := qk.mp z
                rw [q_le] at c
                omega
              · rw [if_neg c]
                have := bitsOf_set (by omega) old (qk.mpr (by rw [q_le] at c; omega))
                rw [bit_one (by omega)] at this
                exact this
          · rw [(x3 s (Or.inr hs1)).2]
            exact f4 s (by omega) hs2
          · show nw - (nI (i + 1)).toNatClampNeg < nw - (nI i).toNatClampNeg
            rw [nI_clamp (by omega), nI_clamp (by omega)]
            omega
        rw [nI_clamp (by omega), c0, fd 0 (by omega)]
        rw [show M1.1 (b1 + 4 + 1 + i) 0 = wk (4 * i) by rw [show b1 + 4 + 1 + i = b1 + (5 + i) by omega, fh _ (by omega)]; exact hwk i hli]
        have k6 : kd 6 = 11 := by decide
        have l6 : ln 6 = 6 := by decide
        have y2' : dd (5 * k + 0) = nI y := y2
        refine ⟨vp_in_nI (by omega) (by omega), d10, by rw [d6]; exact q_in (k := 0) (by omega) (by omega), fun ne => ?_, fun eq => ?_⟩
        · unfold b_X4_weigh_59
          rw [nI_clamp (by omega), c0, fd 0 (by omega), y2', nI_clamp (by omega), show 6 + 1 + i = 7 + i by omega, r48, l6, d6]
          refine ⟨fun _ => ⟨k6, vp_in_nI (by omega) (by omega), d10, q_in (k := 0) (by omega) (by omega), vp_in_nI (by omega) (by omega), fin _ ?_⟩, fun z => absurd rfl z⟩
          rw [if_neg (by rw [← y2']; exact ne), f1 (7 + i) (by omega) (by omega)]
        · unfold b_X4_weigh_59
          refine ⟨fun z => absurd z (by decide), fun _ => fin _ ?_⟩
          rw [if_pos (by rw [← y2']; exact eq)]
    · have e : s = 0 := by
        have : s < 1 := hs
        omega
      subst e
      refine ⟨g3, bitsOf_skip (bitsOf_cong (g4 0 (Nat.two_pow_pos _)) (fun j hj => ?_)) (fun z => ?_)⟩
      · unfold wQ
        rw [if_neg (by omega)]
      · unfold wQ wP at z
        rw [if_pos rfl, lm2, q_toI _ (by omega)] at z
        have z' : (lm : Int) < (0 : Int32).toInt := z
        have e0 : (0 : Int32).toInt = 0 := by decide
        omega
theorem rBr_cong {nw nd : Nat} {br : Nat → Int32} {N M' : xMem} {wk dd : Nat → Int32} (hnw : nw ≤ 6) (h7 : ∀ i, i < 6 → N.1 (7 + i) = M'.1 (7 + i)) (h : rBr nw nd br (fun i => M'.1 (7 + i)) wk dd) : rBr nw nd br (fun i => N.1 (7 + i)) wk dd := by
  intro t ht
  obtain ⟨k, k1, k2, k3⟩ := h t ht
  refine ⟨k, k1, k2, fun j hj => ?_⟩
  have e := heardS_cong (lf := fun i => M'.1 (7 + i)) (lf' := fun i => N.1 (7 + i)) (wk := wk) (y := (dd (5 * j)).toNatClampNeg) (o := true) (s := t) nw (fun i hi => by
    show N.1 (7 + i) _ = M'.1 (7 + i) _
    rw [h7 i (by omega)])
  show k.testBit j = true ↔ (dd (5 * j + 3)).toInt < (heardS (fun i => N.1 (7 + i)) wk (dd (5 * j)).toNatClampNeg true t nw).toInt
  rw [e]
  exact k3 j hj
theorem u_listen {M : xMem} {h w hg f nw nd : Nat} {s wk dd : Nat → Int32} {post : xMem → Prop} (hh : h = 35 ∨ h = 58) (e05 : M.1 0 5 = nI h) (hB : rB w hg f nw nd) (hS : rS s) (hW : rW (w * hg) nw wk) (hD : rD (w * hg) nd dd) (e5 : M.1 5 2 = nI f) (hX : rX w hg nw nd (fun i => M.1 (h + i)) wk dd) (hG : rG (M.1 (h + 2)) (M.1 (h + 3)) (M.1 (h + 1) 2) (M.1 (h + 1) 3) s) (hz : M.1 16 0 = 0) (hK : ∀ M', (∀ j, (j < 7 ∨ 13 ≤ j) → j ≠ 15 → j ≠ 16 → M'.1 j = M.1 j) → M'.2 = M.2 → M'.1 16 0 = 0 → (∀ i, i < nw → rL w hg f s (wk (4 * i)).toNatClampNeg (wk (4 * i + 1)).toNatClampNeg (M'.1 (7 + i))) → rBr nw nd (M'.1 15) (fun i => M'.1 (7 + i)) wk dd → post M') : w_X8_listen M post := by
  have hb := (rB_bounds hB).2
  obtain ⟨⟨x0, x1, x2, x3⟩, x4, x5, -⟩ := hX
  have e05' : (M.1 0 5).toNatClampNeg = h := by rw [e05]; exact nI_clamp (by omega)
  unfold w_X8_listen
  rw [e05']
  refine u_hearW hh hB.1.1 hB.1.2 hB.2.1.2 (by have := hB.2.2.1; omega) hb hB.2.2.2.1 hS hW x0 x1 x2 e5 hG x4 (fun M2 a1 a2 a3 => ?_)
  rw [a1 0 (by omega), e05']
  refine u_weigh (n := w * hg) (nw := nw) (nd := nd) (wk := wk) (dd := dd) hh hb hB.2.2.2.1 hB.2.2.2.2 hD (by rw [a1 h (by omega)]; exact x2) (by rw [a1 h (by omega)]; exact x3) (fun i hi => by rw [a1 _ (by have := hB.2.2.2.1; omega)]; exact x4 i 0 hi (by omega)) (fun i k hi hk => by rw [a1 _ (by have := hB.2.2.2.2; omega)]; exact x5 i k hi hk) (by rw [a1 16 (by omega)]; exact hz) (fun M' b1 b2 b3 b4 => ?_)
  refine hK M' (fun j x y z => (b1 j y z).trans (a1 j x)) (b2.trans a2) b3 (fun i hi => ?_) (rBr_cong hB.2.2.2.1 (fun i hi => b1 (7 + i) (by omega) (by omega)) b4)
  rw [b1 (7 + i) (by have := hB.2.2.2.1; omega) (by have := hB.2.2.2.1; omega)]
  exact a3 i hi
theorem rX_cong2 {w hg nw nd : Nat} {c c' : Nat → Nat → Int32} {wk dd : Nat → Int32} (hw : nw ≤ 6) (hd : nd ≤ 8) (hc : ∀ i, i < 23 → i ≠ 1 → i ≠ 2 → i ≠ 3 → c' i = c i) (h : rX w hg nw nd c wk dd) : rX w hg nw nd c' wk dd := by
  obtain ⟨h1, h2, h3, h4, h5, h6, h7⟩ := h
  refine ⟨?_, fun i k hi hk => ?_, fun i k hi hk => ?_, fun i hi => ?_, fun i hi => ?_, fun s hs => ?_, fun s hs => ?_⟩
  · rw [hc 0 (by omega) (by omega) (by omega) (by omega)]
    exact h1
  · rw [hc (5 + i) (by omega) (by omega) (by omega) (by omega)]
    exact h2 i k hi hk
  · rw [hc (12 + i) (by omega) (by omega) (by omega) (by omega)]
    exact h3 i k hi hk
  · rw [hc 20 (by omega) (by omega) (by omega) (by omega)]
    exact h4 i hi
  · rw [hc (12 + i) (by omega) (by omega) (by omega) (by omega)]
    exact h5 i hi
  · rw [hc 21 (by omega) (by omega) (by omega) (by omega)]
    exact h6 s hs
  · rw [hc 22 (by omega) (by omega) (by omega) (by omega)]
    exact h7 s hs
/-- all anew but text, workers, deeds and images -/
theorem Rel_mk {M N : xMem} {h d w hg f f' nw nd : Nat} (hR : Rel M h d w hg f nw nd) (hf : 1 ≤ f' ∧ f' ≤ 9) (n5 : N.1 5 2 = nI f') (n11 : N.1 81 11 = nI f') (h81 : ∀ k, (k = 3 ∨ k = 9 ∨ k = 10 ∨ k = 20 ∨ k = 21) → N.1 81 k = M.1 81 k) (rows : ∀ i, (i = 0 ∨ i = 2 ∨ i = 3 ∨ (21 ≤ i ∧ i < 35) ∨ (35 ≤ i ∧ i < 81 ∧ i ≠ h + 1 ∧ i ≠ h + 2 ∧ i ≠ h + 3) ∨ i = 82 ∨ i = 85 ∨ i = 86 ∨ i = 87 ∨ i = 88) → N.1 i = M.1 i) (z16 : N.1 16 0 = 0) (hS : rS (N.1 83)) (hG : rG (N.1 (h + 2)) (N.1 (h + 3)) (N.1 (h + 1) 2) (N.1 (h + 1) 3) (N.1 83)) (hH : rH (w * hg) (N.1 17 2) (N.1 18) (N.1 19) (N.1 83)) (hL : ∀ i, i < nw → rL w hg f' (N.1 83) (N.1 87 (4 * i)).toNatClampNeg (N.1 87 (4 * i + 1)).toNatClampNeg (N.1 (7 + i))) (hBr : rBr nw nd (N.1 15) (fun i => N.1 (7 + i)) (N.1 87) (N.1 88)) (hT : N.2 0 = N.2 1) : Rel N h d w hg f' nw nd := by
  obtain ⟨r1, r2, r3, r4, r5, r6, r7, r8, r9, r10, r11, r12, r13⟩ := hR
  have hh : (h = 35 ∨ h = 58) := by rcases r1 with q | q <;> omega
  refine ⟨r1, ?_, ⟨r3.1, r3.2.1, hf, r3.2.2.2⟩, ?_, ?_, ?_, ?_, hG, hH, fun i hi => ?_, hL, hBr, hT⟩
  · rw [rows 0 (by omega)]
    refine ⟨r2.1, r2.2.1, z16, ?_⟩
    rw [rows 56 (by omega), rows 57 (by omega), rows 79 (by omega), rows 80 (by omega)]
    exact r2.2.2.2
  · rw [h81 9 (by omega), h81 10 (by omega), h81 20 (by omega), h81 21 (by omega)]
    exact ⟨r4.1, r4.2.1, n11, r4.2.2.2.1, r4.2.2.2.2.1, n5⟩
  · rw [rows 3 (by omega), rows 2 (by omega), rows 82 (by omega), h81 3 (by omega)]
    exact r5
  · rw [rows 87 (by omega), rows 88 (by omega)]
    exact ⟨hS, r6.2⟩
  · rw [rows 87 (by omega), rows 88 (by omega)]
    exact rX_cong2 r3.2.2.2.1 r3.2.2.2.2 (fun i hi a b c => rows (h + i) (by omega)) r7
  · rw [rows (21 + 7 * i) (by omega), rows (22 + 7 * i) (by omega), rows (23 + 7 * i) (by omega), rows (24 + 7 * i) (by omega), rows (25 + 7 * i) (by omega), rows (26 + 7 * i) (by omega), rows (27 + 7 * i) (by omega), rows 86 (by omega), rows 85 (by omega)]
    exact r10 i hi
