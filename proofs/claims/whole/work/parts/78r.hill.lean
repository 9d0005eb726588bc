/-! hill -/
theorem v_adopts {M : xMem} {w hg nw nd : Nat} {s wk dd : Nat → Int32} {post : xMem → Prop} (hD : rDf M w hg nw nd s wk dd) (hK : ∀ M', (∀ j, j ≠ 81 → j ≠ 83 → j ≠ 86 → j ≠ 87 → j ≠ 88 → M'.1 j = M.1 j) → M'.2 = M.2 → (∀ k, k ≠ 9 → k ≠ 10 → k ≠ 20 → k ≠ 21 → M'.1 81 k = M.1 81 k) → (M'.1 81 9 = nI w ∧ M'.1 81 10 = nI hg ∧ M'.1 81 20 = nI nw ∧ M'.1 81 21 = nI nd) → (∀ k, k < 207 → M'.1 83 k = s k) → (∀ k, k < 24 → M'.1 87 k = M.1 87 (24 + k)) → (∀ k, k < 40 → M'.1 88 k = M.1 88 (40 + k)) → M'.1 86 0 = 0 → M'.1 86 1 = 0 → post M') : w_X9_adopts M post := by
  obtain ⟨⟨d12, d13, d22, d23⟩, d84, -, -⟩ := hD
  unfold w_X9_adopts
  intro M1 e1 M2 e2 M3 e3 M4 e4
  have t : ∀ j, j ≠ 81 → M4.1 j = M.1 j := fun j hj => by rw [e4, m_row _ _ _ hj, e3, m_row _ _ _ hj, e2, m_row _ _ _ hj, e1, m_row _ _ _ hj]
  have t2 : M4.2 = M.2 := by rw [e4, m_snd, e3, m_snd, e2, m_snd, e1, m_snd]
  have t81 : ∀ k, k ≠ 9 → k ≠ 10 → k ≠ 20 → k ≠ 21 → M4.1 81 k = M.1 81 k := fun k a b c d => by rw [e4, m_col _ _ _ d, e3, m_col _ _ _ c, e2, m_col _ _ _ b, e1, m_col _ _ _ a]
  have t9 : M4.1 81 9 = nI w := by rw [e4, m_col _ _ _ (by omega), e3, m_col _ _ _ (by omega), e2, m_col _ _ _ (by omega), e1, m_same, d12]
  have t10 : M4.1 81 10 = nI hg := by rw [e4, m_col _ _ _ (by omega), e3, m_col _ _ _ (by omega), e2, m_same, e1, m_col _ _ _ (by omega), d13]
  have t20 : M4.1 81 20 = nI nw := by rw [e4, m_col _ _ _ (by omega), e3, m_same, e2, m_col _ _ _ (by omega), e1, m_col _ _ _ (by omega), d22]
  have t21 : M4.1 81 21 = nI nd := by rw [e4, m_same, e3, m_col _ _ _ (by omega), e2, m_col _ _ _ (by omega), e1, m_col _ _ _ (by omega), d23]
  clear e1 e2 e3 e4
  refine cnt2 207 (by omega) (fun k M' => kI 83 0 (fun k => M4.1 84 k) M4 k M') kI_0 (fun r k M5 hk hI hr => ?_)
  unfold b_X9_adopts_34
  refine ⟨fun q => ?_, fun q => ?_⟩
  · have e : k = 207 := by
      have := (li_le (n := 207) (k := k) (by omega) (by decide)).mp q
      omega
    subst e
    obtain ⟨u1, u2, u3, u4⟩ := hI
    refine cnt2 24 (by omega) (fun k M' => kI 87 0 (fun k => M5.1 87 (24 + k)) M5 k M') kI_0 (fun r2 k M6 hk hI hr2 => ?_)
    unfold b_X9_adopts_61
    refine ⟨fun q => ?_, fun q => ?_⟩
    · have e : k = 24 := by
        have := (li_le (n := 24) (k := k) (by omega) (by decide)).mp q
        omega
      subst e
      obtain ⟨v1, v2, v3, v4⟩ := hI
      refine cnt2 40 (by omega) (fun k M' => kI 88 0 (fun k => M6.1 88 (40 + k)) M6 k M') kI_0 (fun r3 k M7 hk hI hr3 => ?_)
      unfold b_X9_adopts_90
      refine ⟨fun q => ?_, fun q => ?_⟩
      · have e : k = 40 := by
          have := (li_le (n := 40) (k := k) (by omega) (by decide)).mp q
          omega
        subst e
        obtain ⟨w1, w2, w3, w4⟩ := hI
        intro A a B b
        have a' : A = xset M7 86 0 0 := a
        have b' : B = xset A 86 1 0 := b
        refine hK B (fun j p81 p83 p86 p87 p88 => ?_) ?_ (fun k k9 k10 k20 k21 => ?_) ⟨?_, ?_, ?_, ?_⟩ (fun k hk => ?_) (fun k hk => ?_) (fun k hk => ?_) ?_ ?_
        · rw [b', m_row _ _ _ p86, a', m_row _ _ _ p86, w1 j p88, v1 j p87, u1 j p83, t j p81]
        · rw [b', m_snd, a', m_snd, w2, v2, u2, t2]
        · rw [b', m_row _ _ _ (by omega), a', m_row _ _ _ (by omega), w1 81 (by omega), v1 81 (by omega), u1 81 (by omega)]
          exact t81 k k9 k10 k20 k21
        · rw [b', m_row _ _ _ (by omega), a', m_row _ _ _ (by omega), w1 81 (by omega), v1 81 (by omega), u1 81 (by omega)]
          exact t9
        · rw [b', m_row _ _ _ (by omega), a', m_row _ _ _ (by omega), w1 81 (by omega), v1 81 (by omega), u1 81 (by omega)]
          exact t10
        · rw [b', m_row _ _ _ (by omega), a', m_row _ _ _ (by omega), w1 81 (by omega), v1 81 (by omega), u1 81 (by omega)]
          exact t20
        · rw [b', m_row _ _ _ (by omega), a', m_row _ _ _ (by omega), w1 81 (by omega), v1 81 (by omega), u1 81 (by omega)]
          exact t21
        · rw [b', m_row _ _ _ (by omega), a', m_row _ _ _ (by omega), w1 83 (by omega), v1 83 (by omega)]
          have := u4 k hk
          rw [Nat.zero_add, t 84 (by omega)] at this
          rw [this]
          exact d84 k hk
        · rw [b', m_row _ _ _ (by omega), a', m_row _ _ _ (by omega), w1 87 (by omega)]
          have := v4 k hk
          rw [Nat.zero_add, u1 87 (by omega), t 87 (by omega)] at this
          exact this
        · rw [b', m_row _ _ _ (by omega), a', m_row _ _ _ (by omega)]
          have := w4 k hk
          rw [Nat.zero_add, v1 88 (by omega), u1 88 (by omega), t 88 (by omega)] at this
          exact this
        · rw [b', m_col _ _ _ (by omega), a', m_same]
        · rw [b', m_same]
      · have hlt : k < 40 := Nat.lt_of_not_le (fun q2 => q ((li_le (by omega) (by decide)).mpr q2))
        have ea : (40 : Int32) + nI k = nI (40 + k) := nI_add 40 k
        refine ⟨by rw [ea]; exact vp_in_nI (by omega) (by omega), vp_in_nI (by omega) (by omega), fun M8 e8 => ?_⟩
        rw [ea, nI_clamp (by omega), nI_clamp (by omega)] at e8
        have e8' : M8 = xset M7 88 (0 + k) (M7.1 88 (40 + k)) := by rw [Nat.zero_add]; exact e8
        rw [nI_1]
        refine hr3 hlt M8 ?_
        rw [e8']
        exact kI_S hI (hI.2.2.1 (40 + k) (by omega))
    · have hlt : k < 24 := Nat.lt_of_not_le (fun q2 => q ((li_le (by omega) (by decide)).mpr q2))
      have ea : (24 : Int32) + nI k = nI (24 + k) := nI_add 24 k
      refine ⟨by rw [ea]; exact vp_in_nI (by omega) (by omega), vp_in_nI (by omega) (by omega), fun M8 e8 => ?_⟩
      rw [ea, nI_clamp (by omega), nI_clamp (by omega)] at e8
      have e8' : M8 = xset M6 87 (0 + k) (M6.1 87 (24 + k)) := by rw [Nat.zero_add]; exact e8
      rw [nI_1]
      refine hr2 hlt M8 ?_
      rw [e8']
      exact kI_S hI (hI.2.2.1 (24 + k) (by omega))
  · have hlt : k < 207 := Nat.lt_of_not_le (fun q2 => q ((li_le (by omega) (by decide)).mpr q2))
    refine ⟨vp_in_nI hlt (by omega), vp_in_nI hlt (by omega), fun M8 e8 => ?_⟩
    rw [nI_clamp (by omega)] at e8
    have e8' : M8 = xset M5 83 (0 + k) (M5.1 84 k) := by rw [Nat.zero_add]; exact e8
    rw [nI_1]
    refine hr hlt M8 ?_
    rw [e8']
    refine kI_S hI ?_
    rw [hI.1 84 (by omega)]
theorem P_hill {M : xMem} (hR : RelE M)  {K : Int32 → xMem → Prop} (hK : ∀ r M1, (∀ K2 : Int32 → xMem → Prop, (∀ M2, RelE M2 → K2 r M2) → w_X9_hill M1  K2) → K r M1) : w_X8_hill M  K := by
  obtain ⟨h, d, w0, hg0, f, nw0, nd0, hR⟩ := hR
  obtain ⟨r1, r2, r3, r4, r5, r6, r7, r8, r9, r10, r11, r12, r13⟩ := id hR
  have hhd : (h = 35 ∧ d = 58) ∨ (h = 58 ∧ d = 35) := r1
  have hh : d = 35 ∨ d = 58 := by omega
  have kd_ : kd d = 2 := by rcases hh with rfl | rfl <;> decide
  have kh_ : kd h = 2 := by rcases (show h = 35 ∨ h = 58 by omega) with rfl | rfl <;> decide
  obtain ⟨n, n1, n2, n3, n4⟩ := r5
  have e6 : (M.1 0 6).toNatClampNeg = d := by rw [r2.2.1]; exact nI_clamp (by omega)
  have neg : ∀ st, st < 1000 → ¬ (0 : Int32) ≤ (-10 : Int32) - nI st := fun st hst => by
    have e10 : (-10 : Int32) = nI 0 - nI 10 := by decide
    have : (-10 : Int32) - nI st = nI 0 - nI (10 + st) := by
      rw [e10, ← nI_add, Int32.sub_eq_add_neg, Int32.sub_eq_add_neg, Int32.sub_eq_add_neg, Int32.neg_add, Int32.sub_eq_add_neg, Int32.add_assoc]
    rw [this]
    exact fun z => absurd (pk_sneg (a := 0) (b := 10 + st) (by omega) (by omega)) (Int32.not_lt.mpr z)
  unfold w_X8_hill
  rw [e6]
  refine u_read hR hK ⟨n2, n1, n4⟩ ⟨n3, n1, fun i hi => ⟨rfl, (n4 i hi).2⟩⟩ (fun st M' hst hk => ⟨fun z => absurd z (neg st hst), fun _ => hk⟩) (fun i p w hg nw nd s wk dd M2 hi hend F hD hv hJ => ⟨fun _ => ?_, fun z => absurd (nI_pos' (by omega)) z⟩)
  obtain ⟨v1, v2, v3, v4, v5, v6⟩ := id hv
  obtain ⟨⟨c0, c1, c2, c3⟩, c4, c5, c6⟩ := hD
  have hN : w * hg ≤ 48 := Nat.mul_le_mul v1.2 v2.2
  rw [F.1 0 (by omega) (by omega) (by omega), e6]
  have zs : ∀ j, (j = 56 ∨ j = 57 ∨ j = 79 ∨ j = 80) → M.1 j 0 = 0 := fun j hj => by
    obtain ⟨-, -, -, y1, y2, y3, y4⟩ := r2
    rcases hj with rfl | rfl | rfl | rfl <;> assumption
  refine u_settle (w := w) (hg := hg) (nw := nw) (nd := nd) (wk := wk) (dd := dd) hh v3.1 v3.2 ⟨c0, c1⟩ c2 c3 c4 c5 v5.2 (by rw [F.1 (d + 21) (by omega) (by omega) (by omega)]; exact zs _ (by omega)) (by rw [F.1 (d + 22) (by omega) (by omega) (by omega)]; exact zs _ (by omega)) (fun M6 s1 s2 s3 s4 s5 => ?_)
  have g06 : M6.1 0 = M.1 0 := by rw [s1 0 (by omega), F.1 0 (by omega) (by omega) (by omega)]
  have e5 : (M.1 0 5).toNatClampNeg = h := by rw [r2.1]; exact nI_clamp (by omega)
  rw [g06, e6, e5]
  refine ⟨kd_, fun M8 e8 => ⟨kh_, fun M10 e10 => ?_⟩⟩
  unfold w_X7_empty
  intro M12 e12
  unfold w_X1_empty
  refine ⟨rfl, fun M14 e14 => ?_⟩
  have e14' : M14 = xset M12 17 2 0 := e14
  have t14 : ∀ j, j ≠ 0 → j ≠ 2 → j ≠ 17 → M14.1 j = M6.1 j := fun j p0 p2 p17 => by rw [e14', m_row _ _ _ p17, e12, m_row _ _ _ p2, e10, m_row _ _ _ p0, e8, m_row _ _ _ p0]
  have q05 : M14.1 0 5 = nI d := by rw [e14', m_row _ _ _ (by omega), e12, m_row _ _ _ (by omega), e10, m_col _ _ _ (by omega), e8, m_same]
  have q06 : M14.1 0 6 = nI h := by rw [e14', m_row _ _ _ (by omega), e12, m_row _ _ _ (by omega), e10, m_same]
  have q21 : M14.1 2 1 = 0 := by rw [e14', m_row _ _ _ (by omega), e12, m_same]
  have q172 : M14.1 17 2 = 0 := by rw [e14', m_same]
  have q2 : M14.2 = M.2 := by rw [e14', m_snd, e12, m_snd, e10, m_snd, e8, m_snd, s2, F.2]
  clear e14 e14' e12 e10 e8
  refine cnt3 2 (by omega) (fun k M' => (∀ j, j ≠ 21 → j ≠ 28 → M'.1 j = M14.1 j) ∧ M'.2 = M14.2 ∧ ∀ i, i < k → M'.1 (21 + 7 * i) 2 = 0) ⟨fun _ _ _ => rfl, rfl, fun i hi => absurd hi (Nat.not_lt_zero _)⟩ (fun r k M15 hk hI hr => ?_)
  obtain ⟨g1, g2, g3⟩ := hI
  unfold b_X8_hill_64
  refine ⟨fun q => ?_, fun q => ?_⟩
  · have e : k = 2 := by
      have := (li_le (n := 2) (k := k) (by omega) (by decide)).mp q
      omega
    subst e
    have T : ∀ j, j ≠ 0 → j ≠ 1 → j ≠ 2 → j ≠ 4 → j ≠ 17 → j ≠ 21 → j ≠ 28 → ¬ (d ≤ j ∧ j ≤ d + 22) → M15.1 j = M.1 j := fun j p0 p1 p2 p4 p17 p21 p28 pd => by
      rw [g1 j p21 p28, t14 j p0 p2 p17, s1 j (by omega), F.1 j p1 p4 (by omega)]
    have Dd : ∀ j, d ≤ j → j ≤ d + 22 → M15.1 j = M6.1 j := fun j a b => by rw [g1 j (by omega) (by omega), t14 j (by omega) (by omega) (by omega)]
    have hB : rB w hg f nw nd := ⟨v1, v2, r3.2.2.1, v3⟩
    have hX15 : rX w hg nw nd (fun i => M15.1 (d + i)) wk dd := rX_cong v3.1 v3.2 (fun i hi => Dd (d + i) (by omega) (by omega)) s3
    have hG15 : rG (M15.1 (d + 2)) (M15.1 (d + 3)) (M15.1 (d + 1) 2) (M15.1 (d + 1) 3) s := by
      rw [Dd (d + 1) (by omega) (by omega), Dd (d + 2) (by omega) (by omega), Dd (d + 3) (by omega) (by omega), s1 (d + 1) (by omega), s1 (d + 2) (by omega), s1 (d + 3) (by omega)]
      exact c6
    refine u_listen (h := d) (w := w) (hg := hg) (f := f) (nw := nw) (nd := nd) (s := s) (wk := wk) (dd := dd) hh (by rw [g1 0 (by omega) (by omega)]; exact q05) hB v4 v5.1 v5.2 (by rw [T 5 (by omega) (by omega) (by omega) (by omega) (by omega) (by omega) (by omega) (by omega)]; exact r4.2.2.2.2.2) hX15 hG15 (by rw [T 16 (by omega) (by omega) (by omega) (by omega) (by omega) (by omega) (by omega) (by omega)]; exact r2.2.2.1) (fun M16 b1 b2 b3 b4 b5 => ?_)
    refine hK _ _ (fun K2 h2 => ?_)
    have top : ∀ j, 81 ≤ j → M16.1 j = M.1 j := fun j hj => by rw [b1 j (by omega) (by omega) (by omega), T j (by omega) (by omega) (by omega) (by omega) (by omega) (by omega) (by omega) (by omega)]
    refine hJ K2 M16 top (fun Mr fr al df => ?_)
    rw [show 402 - i = (401 - i) + 1 by omega]
    show b_X9_hill_25 K2 (xq2 (b_X9_hill_25 K2) (401 - i)) Mr (nI i)
    have tok : Mr.1 81 5 = 0 := by
      rw [al.2.2.2.2.2.1, hend]
      rfl
    unfold b_X9_hill_25
    refine v_well al ⟨fun z => absurd z (by decide), fun _ => ⟨fun _ => ?_, fun z => absurd tok z⟩⟩
    unfold b_X9_hill_180
    refine v_well al ⟨fun _ => ?_, fun z => absurd z (by decide)⟩
    refine v_adopts df (fun A a1 a2 a3 a4 a5 a6 a7 a8 a9 B eB => ?_)
    have rB' : ∀ j, j ≠ 81 → B.1 j = A.1 j := fun j hj => by rw [eB, m_row _ _ _ hj]
    have low : ∀ j, j < 81 → B.1 j = M16.1 j := fun j hj => by rw [rB' j (by omega), a1 j (by omega) (by omega) (by omega) (by omega) (by omega), fr.1 j (by omega) (by omega) (by omega) (by omega)]
    have TT : ∀ j, j < 81 → j ≠ 0 → j ≠ 1 → j ≠ 2 → j ≠ 4 → (j < 7 ∨ 13 ≤ j) → j ≠ 15 → j ≠ 16 → j ≠ 17 → j ≠ 21 → j ≠ 28 → ¬ (d ≤ j ∧ j ≤ d + 22) → B.1 j = M.1 j := fun j p p0 p1 p2 p4 p7 p15 p16 p17 p21 p28 pd => by rw [low j p, b1 j p7 p15 p16, T j p0 p1 p2 p4 p17 p21 p28 pd]
    have m15 : ∀ j, j < 81 → (j < 7 ∨ 13 ≤ j) → j ≠ 15 → j ≠ 16 → B.1 j = M15.1 j := fun j p p7 p15 p16 => by rw [low j p, b1 j p7 p15 p16]
    have B81 : ∀ k, k ≠ 3 → B.1 81 k = A.1 81 k := fun k hk => by rw [eB, m_col _ _ _ hk]
    have w87 : ∀ k, k < 4 * nw → B.1 87 k = wk k := fun k hk => by
      rw [rB' 87 (by omega), a6 k (by have := v3.1; omega)]
      exact df.2.2.1 k hk
    have w88 : ∀ k, k < 5 * nd → B.1 88 k = dd k := fun k hk => by
      rw [rB' 88 (by omega), a7 k (by have := v3.2; omega)]
      exact df.2.2.2 k hk
    have w83 : ∀ k, k < 207 → B.1 83 k = s k := fun k hk => by
      rw [rB' 83 (by omega)]
      exact a5 k hk
    refine h2 B ⟨d, h, w, hg, f, nw, nd, by omega, ⟨?_, ?_, ?_, ?_, ?_, ?_, ?_⟩, hB, ⟨?_, ?_, ?_, ?_, ?_, ?_⟩, ⟨0, by omega, ?_, ?_, fun i hi => absurd hi (Nat.not_lt_zero _)⟩, ⟨rS_cong (fun k hk => w83 k (by omega)) v4, rW_cg w87 v5.1, rD_cg w88 v5.2⟩, ?_, ?_, ⟨0, by omega, ?_, ?_, fun i hi => absurd hi (Nat.not_lt_zero _)⟩, fun i hi => ?_, fun i hi => ?_, ?_, ?_⟩
    · rw [m15 0 (by omega) (by omega) (by omega) (by omega), g1 0 (by omega) (by omega)]
      exact q05
    · rw [m15 0 (by omega) (by omega) (by omega) (by omega), g1 0 (by omega) (by omega)]
      exact q06
    · rw [low 16 (by omega)]
      exact b3
    · rw [m15 56 (by omega) (by omega) (by omega) (by omega)]
      by_cases e : d = 35
      · subst e
        rw [Dd 56 (by omega) (by omega)]
        exact s4
      · rw [T 56 (by omega) (by omega) (by omega) (by omega) (by omega) (by omega) (by omega) (by omega)]
        exact zs _ (by omega)
    · rw [m15 57 (by omega) (by omega) (by omega) (by omega)]
      by_cases e : d = 35
      · subst e
        rw [Dd 57 (by omega) (by omega)]
        exact s5
      · rw [T 57 (by omega) (by omega) (by omega) (by omega) (by omega) (by omega) (by omega) (by omega)]
        exact zs _ (by omega)
    · rw [m15 79 (by omega) (by omega) (by omega) (by omega)]
      by_cases e : d = 58
      · subst e
        rw [Dd 79 (by omega) (by omega)]
        exact s4
      · rw [T 79 (by omega) (by omega) (by omega) (by omega) (by omega) (by omega) (by omega) (by omega)]
        exact zs _ (by omega)
    · rw [m15 80 (by omega) (by omega) (by omega) (by omega)]
      by_cases e : d = 58
      · subst e
        rw [Dd 80 (by omega) (by omega)]
        exact s5
      · rw [T 80 (by omega) (by omega) (by omega) (by omega) (by omega) (by omega) (by omega) (by omega)]
        exact zs _ (by omega)
    · rw [B81 9 (by omega)]
      exact a4.1
    · rw [B81 10 (by omega)]
      exact a4.2.1
    · rw [B81 11 (by omega), a3 11 (by omega) (by omega) (by omega) (by omega), fr.2.1 11 (by omega), top 81 (by omega)]
      exact r4.2.2.1
    · rw [B81 20 (by omega)]
      exact a4.2.2.1
    · rw [B81 21 (by omega)]
      exact a4.2.2.2
    · rw [TT 5 (by omega) (by omega) (by omega) (by omega) (by omega) (by omega) (by omega) (by omega) (by omega) (by omega) (by omega) (by omega)]
      exact r4.2.2.2.2.2
    · rw [m15 2 (by omega) (by omega) (by omega) (by omega), g1 2 (by omega) (by omega)]
      exact q21
    · rw [eB, m_same]
      rfl
    · exact rX_cg w87 w88 (rX_cong v3.1 v3.2 (fun i hi => m15 (d + i) (by omega) (by omega) (by omega) (by omega)) hX15)
    · rw [m15 (d + 1) (by omega) (by omega) (by omega) (by omega), m15 (d + 2) (by omega) (by omega) (by omega) (by omega), m15 (d + 3) (by omega) (by omega) (by omega) (by omega)]
      exact rG_cong (fun k hk => w83 k (by omega)) hG15
    · rw [m15 17 (by omega) (by omega) (by omega) (by omega), g1 17 (by omega) (by omega)]
      exact q172
    · rw [w83 194 (by omega)]
      exact v6 194 (by omega)
    · have f0 : B.1 86 i = 0 := by
        rw [rB' 86 (by omega)]
        rcases (show i = 0 ∨ i = 1 by omega) with rfl | rfl
        · exact a8
        · exact a9
      refine ⟨?_, Or.inl f0⟩
      rw [f0, m15 (21 + 7 * i) (by omega) (by omega) (by omega) (by omega)]
      exact g3 i hi
    · rw [w87 _ (by omega), w87 _ (by omega), low (7 + i) (by have := v3.1; omega)]
      exact rL_cong hN (fun k hk => w83 k (by omega)) (b4 i hi)
    · rw [low 15 (by omega)]
      exact rBr_cg w87 w88 (rBr_cong v3.1 (fun i hi => low (7 + i) (by omega)) b5)
    · rw [eB, m_snd, a2, fr.2.2.2.2, b2, g2, q2]
      exact r13
  · have hl : k < 2 := Nat.lt_of_not_le (fun q2 => q ((li_le (by omega) (by decide)).mpr q2))
    rw [nI_clamp (by omega), nI_1]
    refine ⟨vp_in_nI hl (by omega), fun M5 e5 => hr hl M5 ?_⟩
    have e5' : M5 = xset M15 (21 + 7 * k) 2 0 := by rw [e5, show 0 + 20 + 1 + 7 * k = 21 + 7 * k by omega]
    refine ⟨fun j p q => ?_, by rw [e5', m_snd]; exact g2, fun i hi => ?_⟩
    · rw [e5', m_row _ _ _ (by omega)]
      exact g1 j p q
    · rw [e5']
      by_cases e : i = k
      · subst e
        rw [m_same]
      · rw [m_row _ _ _ (by omega)]
        exact g3 i (by omega)
