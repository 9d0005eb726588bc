/-! the class reads a hill -/
theorem ps_ge {x : Nat → Int32} {n p : Nat} (h : p ≤ n) : ∀ j, tkE x n p ≤ ps x n p (j + 1)
  | 0 => Nat.le_refl _
  | j + 1 => Nat.le_trans (ps_ge h j) (Nat.le_trans (tkS_le (ps_le h (j + 1))).1 (tkE_le (ps_le h (j + 1))).1)
theorem fl_le {x : Nat → Int32} {n p m st : Nat} {ck : Nat → Prop} (h : fl x n p ck m st) (hp : p ≤ n) : st ≤ n := by
  obtain ⟨j, j1, j2, j3, j4⟩ := h
  rw [j4]
  exact (tkS_le (ps_le hp (j + 1))).2
theorem vD_W {x : Nat → Int32} {n p w hg nw nd : Nat} {s wk dd : Nat → Int32} (hv : vD w hg nw nd s wk dd) (hm : nw < 6) (a : al (ckW x n p (w * hg)) 5) : vD w hg (nw + 1) nd s (wkU x n p wk (4 * nw)) dd := by
  obtain ⟨v1, v2, v3, v4, v5, v6⟩ := hv
  have hN : 1 ≤ w * hg := Nat.mul_pos v1.1 v2.1
  refine ⟨v1, v2, ⟨by omega, v3.2⟩, v4, ⟨fun i hi => ?_, v5.2⟩, v6⟩
  by_cases e : i < nw
  · unfold wkU
    rw [if_pos (by omega), if_pos (by omega), if_pos (by omega), if_pos (by omega)]
    exact v5.1 i e
  · have e : i = nw := by omega
    subst e
    have t1 := a 1 (by omega) (by omega)
    have t2 := a 2 (by omega) (by omega)
    have t3 := a 3 (by omega) (by omega)
    have t4 := a 4 (by omega) (by omega)
    unfold wkU
    rw [if_neg (by omega), if_neg (by omega), if_neg (by omega), if_neg (by omega), Nat.sub_self, Nat.add_sub_cancel_left, Nat.add_sub_cancel_left, Nat.add_sub_cancel_left]
    have b1 := t1.2.2
    have b2 := t2.2
    have b3 := t3.2.2
    have b4 := t4.2.2
    exact ⟨⟨tkV x n (ps x n p 1), by omega, rfl⟩, ⟨tkV x n (ps x n p 2), by omega, rfl⟩, nI_ne0 (n := tkV x n (ps x n p 2)) b2.1 (by omega), ⟨tkV x n (ps x n p 3), by omega, rfl⟩, ⟨tkV x n (ps x n p 4), by omega, rfl⟩⟩
theorem vD_D {x : Nat → Int32} {n p w hg nw nd : Nat} {s wk dd : Nat → Int32} (hv : vD w hg nw nd s wk dd) (hm : nd < 8) (a : al (ckD x n p (w * hg)) 6) : vD w hg nw (nd + 1) s wk (wkU x n p dd (5 * nd)) := by
  obtain ⟨v1, v2, v3, v4, v5, v6⟩ := hv
  have hN : 1 ≤ w * hg := Nat.mul_pos v1.1 v2.1
  refine ⟨v1, v2, ⟨v3.1, by omega⟩, v4, ⟨v5.1, fun i hi => ?_⟩, v6⟩
  by_cases e : i < nd
  · unfold wkU
    rw [if_pos (by omega), if_pos (by omega), if_pos (by omega), if_pos (by omega), if_pos (by omega)]
    exact v5.2 i e
  · have e : i = nd := by omega
    subst e
    have t1 := a 1 (by omega) (by omega)
    have t2 := a 2 (by omega) (by omega)
    have t3 := a 3 (by omega) (by omega)
    have t4 := a 4 (by omega) (by omega)
    have t5 := a 5 (by omega) (by omega)
    unfold wkU
    rw [if_neg (by omega), if_neg (by omega), if_neg (by omega), if_neg (by omega), if_neg (by omega), Nat.sub_self, Nat.add_sub_cancel_left, Nat.add_sub_cancel_left, Nat.add_sub_cancel_left, Nat.add_sub_cancel_left]
    have b1 := t1.2.2
    have b2 := t2.2.2
    have b3 := t3.2
    have b4 := t4.2.2
    have b5 := t5.2.2
    refine ⟨⟨tkV x n (ps x n p 1), by omega, rfl⟩, ⟨tkV x n (ps x n p 2), by omega, rfl⟩, ⟨tkV x n (ps x n p 3), by omega, rfl⟩, ?_, ⟨tkV x n (ps x n p 4), by omega, rfl⟩, ⟨tkV x n (ps x n p 5), by omega, rfl⟩⟩
    show (nI (tkV x n (ps x n p 2))).toInt ≤ (nI (tkV x n (ps x n p 3))).toInt
    rw [q_toI _ (by omega), q_toI _ (by omega)]
    exact Int.ofNat_le.mpr b3.1
theorem cD_W {M M' : xMem} {x : Nat → Int32} {n p d w hg nw nd : Nat} {s wk dd : Nat → Int32} (hc : cD M d w hg nw nd s wk dd) (hm : nw < 6) (hnd : nd ≤ 8) (g2 : ∀ k, k ≠ 2 → M'.1 d k = M.1 d k) (g3 : M'.1 d 2 = nI (nw + 1)) (g4 : ∀ j, j ≠ d → j ≠ d + (5 + nw) → d ≤ j → j < d + 20 → M'.1 j = M.1 j) (g5 : ∀ k, k < 4 → M'.1 (d + (5 + nw)) k = nI (tkV x n (ps x n p (k + 1)))) : cD M' d w hg (nw + 1) nd s (wkU x n p wk (4 * nw)) dd := by
  obtain ⟨⟨c0, c1, c2, c3⟩, c4, c5, c6⟩ := hc
  refine ⟨⟨(g2 0 (by omega)).trans c0, (g2 1 (by omega)).trans c1, g3, (g2 3 (by omega)).trans c3⟩, fun i k hi hk => ?_, fun i k hi hk => ?_, ?_⟩
  · unfold wkU
    by_cases e : i < nw
    · rw [if_pos (by omega), g4 _ (by omega) (by omega) (by omega) (by omega)]
      exact c4 i k e hk
    · have e : i = nw := by omega
      subst e
      rw [if_neg (by omega), Nat.add_sub_cancel_left]
      exact g5 k hk
  · rw [g4 _ (by omega) (by omega) (by omega) (by omega)]
    exact c5 i k hi hk
  · rw [g4 (d + 1) (by omega) (by omega) (by omega) (by omega), g4 (d + 2) (by omega) (by omega) (by omega) (by omega), g4 (d + 3) (by omega) (by omega) (by omega) (by omega)]
    exact c6
theorem cD_D {M M' : xMem} {x : Nat → Int32} {n p d w hg nw nd : Nat} {s wk dd : Nat → Int32} (hc : cD M d w hg nw nd s wk dd) (hm : nd < 8) (hnw : nw ≤ 6) (g2 : ∀ k, k ≠ 3 → M'.1 d k = M.1 d k) (g3 : M'.1 d 3 = nI (nd + 1)) (g4 : ∀ j, j ≠ d → j ≠ d + (12 + nd) → d ≤ j → j < d + 20 → M'.1 j = M.1 j) (g5 : ∀ k, k < 5 → M'.1 (d + (12 + nd)) k = nI (tkV x n (ps x n p (k + 1)))) : cD M' d w hg nw (nd + 1) s wk (wkU x n p dd (5 * nd)) := by
  obtain ⟨⟨c0, c1, c2, c3⟩, c4, c5, c6⟩ := hc
  refine ⟨⟨(g2 0 (by omega)).trans c0, (g2 1 (by omega)).trans c1, (g2 2 (by omega)).trans c2, g3⟩, fun i k hi hk => ?_, fun i k hi hk => ?_, ?_⟩
  · rw [g4 _ (by omega) (by omega) (by omega) (by omega)]
    exact c4 i k hi hk
  · unfold wkU
    by_cases e : i < nd
    · rw [if_pos (by omega), g4 _ (by omega) (by omega) (by omega) (by omega)]
      exact c5 i k e hk
    · have e : i = nd := by omega
      subst e
      rw [if_neg (by omega), Nat.add_sub_cancel_left]
      exact g5 k hk
  · rw [g4 (d + 1) (by omega) (by omega) (by omega) (by omega), g4 (d + 2) (by omega) (by omega) (by omega) (by omega), g4 (d + 3) (by omega) (by omega) (by omega) (by omega)]
    exact c6
/-- both begin to read -/
theorem jP_0 {M : xMem} {x : Nat → Int32} {n : Nat} (hT : rTx M n x) : jP M x n 0 0 4 3 0 0 (fun _ => 0) (fun _ => 0) (fun _ => 0) := by
  intro K2 Mr hMr hgo
  unfold w_X9_hill
  intro M1 e1 M2 e2 M3 e3
  unfold w_X9_begins
  intro A1 a1 A2 a2 A3 a3 A4 a4
  have t81 : ∀ k, k ≠ 0 → k ≠ 4 → k ≠ 8 → k ≠ 12 → k ≠ 13 → k ≠ 22 → k ≠ 23 → A4.1 81 k = Mr.1 81 k := fun k k0 k4 k8 k12 k13 k22 k23 => by
    rw [a4, m_col _ _ _ k23, a3, m_col _ _ _ k22, a2, m_col _ _ _ k13, a1, m_col _ _ _ k12, e3, m_col _ _ _ k4, e2, m_col _ _ _ k8, e1, m_col _ _ _ k0]
  have t : ∀ j, j ≠ 81 → A4.1 j = Mr.1 j := fun j hj => by
    rw [a4, m_row _ _ _ hj, a3, m_row _ _ _ hj, a2, m_row _ _ _ hj, a1, m_row _ _ _ hj, e3, m_row _ _ _ hj, e2, m_row _ _ _ hj, e1, m_row _ _ _ hj]
  have t2 : A4.2 = Mr.2 := by rw [a4, m_snd, a3, m_snd, a2, m_snd, a1, m_snd, e3, m_snd, e2, m_snd, e1, m_snd]
  have s4 : A4.1 81 4 = 0 := by rw [a4, m_col _ _ _ (by omega), a3, m_col _ _ _ (by omega), a2, m_col _ _ _ (by omega), a1, m_col _ _ _ (by omega), e3, m_same]
  have s8 : A4.1 81 8 = -1 := by rw [a4, m_col _ _ _ (by omega), a3, m_col _ _ _ (by omega), a2, m_col _ _ _ (by omega), a1, m_col _ _ _ (by omega), e3, m_col _ _ _ (by omega), e2, m_same]
  have s12 : A4.1 81 12 = 4 := by rw [a4, m_col _ _ _ (by omega), a3, m_col _ _ _ (by omega), a2, m_col _ _ _ (by omega), a1, m_same]
  have s13 : A4.1 81 13 = 3 := by rw [a4, m_col _ _ _ (by omega), a3, m_col _ _ _ (by omega), a2, m_same]
  have s22 : A4.1 81 22 = 0 := by rw [a4, m_col _ _ _ (by omega), a3, m_same]
  have s23 : A4.1 81 23 = 0 := by rw [a4, m_same]
  clear a1 a2 a3 a4 e1 e2 e3
  refine cnt2 207 (by omega) (fun k M' => kI 84 0 (fun _ => 0) A4 k M') kI_0 (fun r k M' hk hI hr => ?_)
  unfold b_X9_begins_22
  refine ⟨fun q => ?_, fun q => ?_⟩
  · have hl : 207 ≤ k := (li_le (n := 207) (by omega) (by decide)).mp q
    have e : k = 207 := by omega
    subst e
    obtain ⟨u1, u2, u3, u4⟩ := hI
    have hT5 : rTx M' n x := by
      refine rTx_of hT ?_ ?_
      · rw [u1 81 (by omega), t81 3 (by omega) (by omega) (by omega) (by omega) (by omega) (by omega) (by omega), hMr 81 (by omega)]
      · rw [u1 82 (by omega), t 82 (by omega), hMr 82 (by omega)]
    refine v_adv (p := 0) hT5 (Nat.zero_le _) (by rw [u1 81 (by omega)]; exact s4) (fun M7 k7 => ?_)
    obtain ⟨k1, k2, k3, k4, k5, k6, k7, k8⟩ := k7
    have g : ∀ j, j ≠ 81 → j ≠ 84 → M7.1 j = Mr.1 j := fun j p q => (k1 j p).trans ((u1 j q).trans (t j p))
    have g81 : ∀ k, k ≠ 0 → k ≠ 4 → k ≠ 5 → k ≠ 6 → k ≠ 7 → k ≠ 8 → k ≠ 12 → k ≠ 13 → k ≠ 22 → k ≠ 23 → M7.1 81 k = Mr.1 81 k := fun k p0 p4 p5 p6 p7 p8 p12 p13 p22 p23 => (k3 k p4 p5 p6 p7).trans ((congrFun (u1 81 (by omega)) k).trans (t81 k p0 p4 p8 p12 p13 p22 p23))
    have c81 : ∀ k, k ≠ 4 → k ≠ 5 → k ≠ 6 → k ≠ 7 → M7.1 81 k = A4.1 81 k := fun k p4 p5 p6 p7 => (k3 k p4 p5 p6 p7).trans (congrFun (u1 81 (by omega)) k)
    refine ⟨402, hgo M7 ⟨fun j p q _ _ => g j p q, fun k hk => g81 k (by omega) (by omega) (by omega) (by omega) (by omega) (by omega) (by omega) (by omega) (by omega) (by omega), fun k _ => by rw [g 87 (by omega) (by omega)], fun k _ => by rw [g 88 (by omega) (by omega)], by rw [k2, u2, t2]⟩ ⟨?_, Nat.zero_le _, ?_, k4, k5, k6, k7, k8⟩ ⟨⟨?_, ?_, ?_, ?_⟩, fun k hk => ?_, fun k hk => absurd hk (by omega), fun k hk => absurd hk (by omega)⟩⟩
    · exact rTx_of hT5 (k3 3 (by omega) (by omega) (by omega) (by omega)) (k1 82 (by omega))
    · exact (c81 8 (by omega) (by omega) (by omega) (by omega)).trans s8
    · exact (c81 12 (by omega) (by omega) (by omega) (by omega)).trans s12
    · exact (c81 13 (by omega) (by omega) (by omega) (by omega)).trans s13
    · exact (c81 22 (by omega) (by omega) (by omega) (by omega)).trans s22
    · exact (c81 23 (by omega) (by omega) (by omega) (by omega)).trans s23
    · rw [k1 84 (by omega)]
      have := u4 k hk
      rw [Nat.zero_add] at this
      exact this
  · have hl : k < 207 := Nat.lt_of_not_le (fun q2 => q ((li_le (by omega) (by decide)).mpr q2))
    refine ⟨vp_in_nI hl (by omega), fun M6 e6 => ?_⟩
    rw [nI_clamp (by omega)] at e6
    have e6' : M6 = xset M' 84 (0 + k) 0 := by rw [Nat.zero_add]; exact e6
    rw [nI_1]
    refine hr hl M6 ?_
    rw [e6']
    exact kI_S hI rfl
theorem vD_0 {wk dd : Nat → Int32} : vD 4 3 0 0 (fun _ => 0) wk dd := ⟨by omega, by omega, by omega, ⟨fun b _ => inN_0 (by omega), fun b _ => inN_0 (by omega), by decide, by decide⟩, ⟨fun i hi => absurd hi (Nat.not_lt_zero _), fun i hi => absurd hi (Nat.not_lt_zero _)⟩, fun _ _ => rfl⟩
theorem u_start {M : xMem} {d : Nat} {post : xMem → Prop} (hh : d = 35 ∨ d = 58) (hK : ∀ M', cF M M' d → cD M' d 4 3 0 0 (fun _ => 0) (fun _ => 0) (fun _ => 0) → post M') : w_X2_startAnew M d post := by
  have kh : kd d = 2 := by rcases hh with rfl | rfl <;> decide
  have kh1 : kd (d + 1) = 0 := by rcases hh with rfl | rfl <;> decide
  have k2 : kd (d + 1 + 1) = 10 ∧ ln (d + 1 + 1) = 96 := by rcases hh with rfl | rfl <;> decide
  have k3 : kd (d + 1 + 2) = 10 ∧ ln (d + 1 + 2) = 96 := by rcases hh with rfl | rfl <;> decide
  unfold w_X2_startAnew
  refine ⟨kh, fun M1 e1 M2 e2 M3 e3 M4 e4 => ?_⟩
  unfold w_X0_flatten
  refine ⟨kh1, c_fill k2.1 (by omega) (fun A a1 a2 a3 a4 => c_fill k3.1 (by omega) (fun B b1 b2 b3 b4 M5 e5 M6 e6 => ?_))⟩
  rw [k2.2] at a4
  rw [k3.2] at b4
  have g : ∀ j, j ≠ d → j ≠ d + 1 → j ≠ d + 2 → j ≠ d + 3 → M6.1 j = M.1 j := fun j p0 p1 p2 p3 => by
    rw [e6, m_row _ _ _ p1, e5, m_row _ _ _ p1, b1 j (by omega), a1 j (by omega), e4, m_row _ _ _ p0, e3, m_row _ _ _ p0, e2, m_row _ _ _ p0, e1, m_row _ _ _ p0]
  have gd : M6.1 d = M4.1 d := by rw [e6, m_row _ _ _ (by omega), e5, m_row _ _ _ (by omega), b1 d (by omega), a1 d (by omega)]
  have z : (0 : Int32) = nI 0 := rfl
  refine hK M6 ⟨fun j _ _ hj => g j (by omega) (by omega) (by omega) (by omega), by rw [e6, m_snd, e5, m_snd, b2, a2, e4, m_snd, e3, m_snd, e2, m_snd, e1, m_snd]⟩ ⟨⟨?_, ?_, ?_, ?_⟩, fun i k hi => absurd hi (Nat.not_lt_zero _), fun i k hi => absurd hi (Nat.not_lt_zero _), fun a ha => ⟨?_, ?_⟩, fun a ha => ⟨?_, ?_⟩, ?_, ?_⟩
  · rw [gd, e4, m_col _ _ _ (by omega), e3, m_col _ _ _ (by omega), e2, m_col _ _ _ (by omega), e1, m_same]
    rfl
  · rw [gd, e4, m_col _ _ _ (by omega), e3, m_col _ _ _ (by omega), e2, m_same]
    rfl
  · rw [gd, e4, m_col _ _ _ (by omega), e3, m_same]
    rfl
  · rw [gd, e4, m_same]
    rfl
  · rw [e6, m_row _ _ _ (by omega), e5, m_row _ _ _ (by omega), b1 _ (by omega)]
    exact a4 _ (by omega)
  · rw [e6, m_row _ _ _ (by omega), e5, m_row _ _ _ (by omega), b1 _ (by omega)]
    exact a4 _ (by omega)
  · rw [e6, m_row _ _ _ (by omega), e5, m_row _ _ _ (by omega)]
    exact b4 _ (by omega)
  · rw [e6, m_row _ _ _ (by omega), e5, m_row _ _ _ (by omega)]
    exact b4 _ (by omega)
  · rw [e6, m_col _ _ _ (by omega), e5, m_same]
  · rw [e6, m_same]
