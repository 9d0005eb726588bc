/-! back -/
theorem r_back {M : xMem} {i : Nat} {post : Int32 → xMem → Prop} (hi : i < 2) (hK : ∀ M', kI 83 0 (fun k => M.1 85 (207 * i + k)) M 207 M' → post (M'.1 83 194) M') : xlp3 (b_X9_back_30 post) M (nI i) 0 := by
  have e194 : (194 : Int32).toNatClampNeg = 194 := by decide
  refine cnt3 207 (by omega) (fun k M' => kI 83 0 (fun k => M.1 85 (207 * i + k)) M k M') kI_0 (fun r k M' hk hI hr => ?_)
  unfold b_X9_back_30
  refine ⟨fun q => ?_, fun q => ?_⟩
  · have hl : 207 ≤ k := (li_le (n := 207) (by omega) (by decide)).mp q
    have e : k = 207 := by omega
    subst e
    rw [e194]
    exact hK M' hI
  · have hl : k < 207 := Nat.lt_of_not_le (fun q2 => q ((li_le (by omega) (by decide)).mpr q2))
    have ea : (207 : Int32) * nI i + nI k = nI (207 * i + k) := by rw [show (207 : Int32) = nI 207 from rfl, pk_mul, nI_add]
    refine ⟨by rw [ea]; exact vp_in_nI (by omega) (by omega), vp_in_nI hl (by omega), fun M6 e6 => ?_⟩
    rw [ea, nI_clamp (by omega), nI_clamp (by omega)] at e6
    have e6' : M6 = xset M' 83 (0 + k) (M'.1 85 (207 * i + k)) := by rw [Nat.zero_add]; exact e6
    rw [nI_1]
    refine hr hl M6 ?_
    rw [e6']
    refine kI_S hI ?_
    rw [hI.1 85 (by omega)]
theorem P_back {M : xMem} (hR : RelE M) (a0 : Int32) {K : Int32 → xMem → Prop} (hK : ∀ r M1, (∀ K2 : Int32 → xMem → Prop, (∀ M2, RelE M2 → K2 r M2) → w_X9_back M1 a0 K2) → K r M1) : w_X8_back M a0 K := by
  obtain ⟨h, d, w, hg, f, nw, nd, hR⟩ := hR
  obtain ⟨hh, e5, hk⟩ := Rel_h hR
  obtain ⟨r1, r2, r3, r4, r5, r6, r7, r8, r9, r10, r11, r12, r13⟩ := id hR
  have hb := (rB_bounds r3).2
  have hthr : RelE (xset M 81 0 0) := ⟨h, d, w, hg, f, nw, nd, Rel_thr hR⟩
  have kh : kd (h + 1) = 0 := by rcases hh with rfl | rfl <;> decide
  unfold w_X8_back
  refine u_rng 1 2 rfl (by omega) rfl (fun hin => z_nf ?_) (fun hin => z_nt (hK _ _ (fun K2 h2 => ?_)))
  · obtain ⟨i, hi, rfl⟩ := id hin
    rw [nI_clamp (by omega), show 0 + 20 + 1 + 7 * i = 21 + 7 * i by omega]
    have ki : kd (21 + 7 * i + 1) = 0 := by rcases (show i = 0 ∨ i = 1 by omega) with rfl | rfl <;> decide
    have kj : kd (21 + 7 * i + 4) = 1 := by rcases (show i = 0 ∨ i = 1 by omega) with rfl | rfl <;> decide
    obtain ⟨o1, o2⟩ := r10 i hi
    have f86 : (xset M 81 0 0).1 (81 + 5) i = M.1 86 i := congrFun (m_row M 0 0 (show (81 + 5) ≠ 81 by omega)) i
    refine ⟨vp_in_nI hi (by omega), fun ne => ?_, fun z => hK _ _ (fun K2 h2 => ?_)⟩
    · rw [e5]
      have ne86 : ¬ M.1 86 i = 0 := fun z => ne (o1.trans z)
      rcases o2 with z | ⟨-, oS, oG, oH⟩
      · exact absurd z ne86
      refine ⟨hk, ?_⟩
      unfold w_X0_becomes
      refine ⟨kh, ki, fun A1 eA1 A2 eA2 A3 eA3 A4 eA4 => ?_⟩
      unfold w_X1_becomes
      refine ⟨by decide, kj, fun B1 eB1 B2 eB2 B3 eB3 => ?_⟩
      have eB1' : B1 = xrow A4 18 (va_cpy (A4.1 (21 + 7 * i + 4 + 1)) (A4.1 18) 0 0 6) := eB1
      have eB2' : B2 = xrow B1 19 (va_cpy (B1.1 (21 + 7 * i + 4 + 2)) (B1.1 19) 0 0 6) := eB2
      have eB3' : B3 = xset B2 17 2 (B2.1 (21 + 7 * i + 4) 2) := eB3
      clear eB1 eB2 eB3
      have gA : ∀ j, j ≠ h + 1 → j ≠ h + 2 → j ≠ h + 3 → A4.1 j = M.1 j := fun j p q s => by
        rw [eA4, m_row _ _ _ p, eA3, m_row _ _ _ p, eA2, m_rrow _ _ (by omega), eA1, m_rrow _ _ (by omega)]
      have gB : ∀ j, j ≠ 17 → j ≠ 18 → j ≠ 19 → B3.1 j = A4.1 j := fun j p q s => by
        rw [eB3', m_row _ _ _ p, eB2', m_rrow _ _ s, eB1', m_rrow _ _ q]
      have g : ∀ j, j ≠ 17 → j ≠ 18 → j ≠ 19 → j ≠ h + 1 → j ≠ h + 2 → j ≠ h + 3 → B3.1 j = M.1 j := fun j p q s p' q' s' => (gB j p q s).trans (gA j p' q' s')
      have q2 : B3.2 = M.2 := by rw [eB3', m_snd, eB2', m_rsnd, eB1', m_rsnd, eA4, m_snd, eA3, m_snd, eA2, m_rsnd, eA1, m_rsnd]
      have cw : ∀ (F G : Nat → Int32) n k, k < n → va_cpy F G 0 0 n k = F k := fun F G n k hk => by
        rw [pk_cpy_in (Nat.zero_le _) (by omega), Nat.zero_add, Nat.sub_zero]
      have s1 : ∀ k, k < 96 → B3.1 (h + 2) k = M.1 (23 + 7 * i) k := fun k hk => by
        rw [gB _ (by omega) (by omega) (by omega), eA4, m_row _ _ _ (by omega), eA3, m_row _ _ _ (by omega), eA2, m_rrow _ _ (by omega), eA1, show h + 2 = h + 1 + 1 by omega, m_rsame, cw _ _ _ _ hk, show 21 + 7 * i + 1 + 1 = 23 + 7 * i by omega]
      have s2 : ∀ k, k < 96 → B3.1 (h + 3) k = M.1 (24 + 7 * i) k := fun k hk => by
        rw [gB _ (by omega) (by omega) (by omega), eA4, m_row _ _ _ (by omega), eA3, m_row _ _ _ (by omega), eA2, show h + 3 = h + 1 + 2 by omega, m_rsame, cw _ _ _ _ hk, eA1, m_rrow _ _ (by omega), show 21 + 7 * i + 1 + 2 = 24 + 7 * i by omega]
      have s3 : B3.1 (h + 1) 2 = M.1 (22 + 7 * i) 2 := by
        rw [gB _ (by omega) (by omega) (by omega), eA4, m_col _ _ _ (by omega), eA3, m_same, eA2, m_rrow _ _ (by omega), eA1, m_rrow _ _ (by omega), show 21 + 7 * i + 1 = 22 + 7 * i by omega]
      have s4 : B3.1 (h + 1) 3 = M.1 (22 + 7 * i) 3 := by
        rw [gB _ (by omega) (by omega) (by omega), eA4, m_same, eA3, m_row _ _ _ (by omega), eA2, m_rrow _ _ (by omega), eA1, m_rrow _ _ (by omega), show 21 + 7 * i + 1 = 22 + 7 * i by omega]
      have s5 : ∀ k, k < 6 → B3.1 18 k = M.1 (26 + 7 * i) k := fun k hk => by
        rw [eB3', m_row _ _ _ (by omega), eB2', m_rrow _ _ (by omega), eB1', m_rsame, cw _ _ _ _ hk, show 21 + 7 * i + 4 + 1 = 26 + 7 * i by omega, gA _ (by omega) (by omega) (by omega)]
      have s6 : ∀ k, k < 6 → B3.1 19 k = M.1 (27 + 7 * i) k := fun k hk => by
        rw [eB3', m_row _ _ _ (by omega), eB2', m_rsame, cw _ _ _ _ hk, show 21 + 7 * i + 4 + 2 = 27 + 7 * i by omega, eB1', m_rrow _ _ (by omega), gA _ (by omega) (by omega) (by omega)]
      have s7 : B3.1 17 2 = M.1 (25 + 7 * i) 2 := by
        rw [eB3', m_same, eB2', m_rrow _ _ (by omega), eB1', m_rrow _ _ (by omega), show 21 + 7 * i + 4 = 25 + 7 * i by omega, gA _ (by omega) (by omega) (by omega)]
      refine u_listen (w := w) (hg := hg) (f := f) (nw := nw) (nd := nd) (s := fun k => M.1 85 (207 * i + k)) (wk := M.1 87) (dd := M.1 88) hh (by rw [g 0 (by omega) (by omega) (by omega) (by omega) (by omega) (by omega)]; exact r2.1) r3 oS r6.2.1 r6.2.2 (by rw [g 5 (by omega) (by omega) (by omega) (by omega) (by omega) (by omega)]; exact r4.2.2.2.2.2) (rX_cong2 r3.2.2.2.1 r3.2.2.2.2 (fun i hi a b c => g _ (by omega) (by omega) (by omega) (by omega) (by omega) (by omega)) r7) (by rw [s3, s4]; exact rG_cls s1 s2 oG) (by rw [g 16 (by omega) (by omega) (by omega) (by omega) (by omega) (by omega)]; exact r2.2.2.1) (fun M' b1 b2 b3 b4 b5 => ?_)
      refine hK _ _ (fun K2 h2 => ?_)
      unfold w_X9_back
      intro M1 e1
      refine v_rng 1 2 rfl (by omega) rfl (fun _ => z_nf ?_) (fun q => absurd hin q)
      have m : ∀ j, (j < 7 ∨ 13 ≤ j) → j ≠ 15 → j ≠ 16 → j ≠ 81 → j ≠ 17 → j ≠ 18 → j ≠ 19 → j ≠ h + 1 → j ≠ h + 2 → j ≠ h + 3 → M1.1 j = M.1 j := fun j p1 p2 p3 p4 p5 p6 p7 p8 p9 p10 => by rw [e1, m_row _ _ _ p4, b1 j p1 p2 p3, g j p5 p6 p7 p8 p9 p10]
      have m86 : M1.1 (81 + 5) = M.1 86 := m 86 (by omega) (by omega) (by omega) (by omega) (by omega) (by omega) (by omega) (by omega) (by omega) (by omega)
      have m85 : M1.1 85 = M.1 85 := m 85 (by omega) (by omega) (by omega) (by omega) (by omega) (by omega) (by omega) (by omega) (by omega) (by omega)
      rw [m86, nI_clamp (by omega)]
      refine ⟨vp_in_nI hi (by omega), fun _ => ?_, fun z => absurd z ne86⟩
      refine r_back hi (fun M2 hI => ?_)
      obtain ⟨u1, u2, u3, u4⟩ := hI
      have t83 : ∀ k, k < 207 → M2.1 83 k = M.1 85 (207 * i + k) := fun k hk => by
        have := u4 k hk
        rw [Nat.zero_add, m85] at this
        exact this
      have t : ∀ j, j ≠ 81 → j ≠ 83 → M2.1 j = M'.1 j := fun j p q => by rw [u1 j q, e1, m_row _ _ _ p]
      have t81 : ∀ k, k ≠ 0 → M2.1 81 k = M.1 81 k := fun k p => by rw [u1 81 (by omega), e1, m_col _ _ _ p, b1 81 (by omega) (by omega) (by omega), g 81 (by omega) (by omega) (by omega) (by omega) (by omega) (by omega)]
      have T : ∀ j, (j < 7 ∨ 13 ≤ j) → j ≠ 15 → j ≠ 16 → j ≠ 81 → j ≠ 83 → M2.1 j = B3.1 j := fun j p1 p2 p3 p4 p5 => by rw [t j p4 p5, b1 j p1 p2 p3]
      have TT : ∀ j, (j < 7 ∨ 13 ≤ j) → j ≠ 15 → j ≠ 16 → j ≠ 81 → j ≠ 83 → j ≠ 17 → j ≠ 18 → j ≠ 19 → j ≠ h + 1 → j ≠ h + 2 → j ≠ h + 3 → M2.1 j = M.1 j := fun j p1 p2 p3 p4 p5 a1 a2 a3 a4 a5 a6 => by rw [T j p1 p2 p3 p4 p5, g j a1 a2 a3 a4 a5 a6]
      have t7 : ∀ i, i < 6 → M2.1 (7 + i) = M'.1 (7 + i) := fun i hi => t _ (by omega) (by omega)
      have t87 : M2.1 87 = M.1 87 := TT 87 (by omega) (by omega) (by omega) (by omega) (by omega) (by omega) (by omega) (by omega) (by omega) (by omega) (by omega)
      have t88 : M2.1 88 = M.1 88 := TT 88 (by omega) (by omega) (by omega) (by omega) (by omega) (by omega) (by omega) (by omega) (by omega) (by omega) (by omega)
      have er : M2.1 83 194 = M'.1 (0 + 17) 2 := by
        rw [t83 194 (by omega), show 0 + 17 = 17 from rfl, b1 17 (by omega) (by omega) (by omega), s7]
        obtain ⟨n, n1, n2, n3, n4⟩ := oH
        rw [n2]
        exact n3
      rw [er]
      refine h2 _ ⟨h, d, w, hg, f, nw, nd, Rel_mk hR r3.2.2.1 (by rw [TT 5 (by omega) (by omega) (by omega) (by omega) (by omega) (by omega) (by omega) (by omega) (by omega) (by omega) (by omega)]; exact r4.2.2.2.2.2) (by rw [t81 11 (by omega)]; exact r4.2.2.1) (fun k hk => t81 k (by omega)) (fun i hi => TT i (by omega) (by omega) (by omega) (by omega) (by omega) (by omega) (by omega) (by omega) (by omega) (by omega) (by omega)) (by rw [t 16 (by omega) (by omega)]; exact b3) ?_ ?_ ?_ (fun i hi => ?_) ?_ ?_⟩
      · exact rS_cong (fun k hk => t83 k (by omega)) oS
      · rw [T (h + 1) (by omega) (by omega) (by omega) (by omega) (by omega), T (h + 2) (by omega) (by omega) (by omega) (by omega) (by omega), T (h + 3) (by omega) (by omega) (by omega) (by omega) (by omega), s3, s4]
        exact rG_cls s1 s2 (rG_cong (fun k hk => t83 k (by omega)) oG)
      · rw [T 17 (by omega) (by omega) (by omega) (by omega) (by omega), T 18 (by omega) (by omega) (by omega) (by omega) (by omega), T 19 (by omega) (by omega) (by omega) (by omega) (by omega), s7]
        exact rH_cong s5 s6 (fun k _ hk => t83 k hk) oH
      · rw [t87, t7 i (by have := r3.2.2.2.1; omega)]
        exact rL_cong hb (fun k hk => t83 k (by omega)) (b4 i hi)
      · rw [t87, t88, t 15 (by omega) (by omega)]
        exact rBr_cong r3.2.2.2.1 t7 b5
      · rw [u2, e1, m_snd, b2, q2]
        exact r13
    · unfold w_X9_back
      intro M1 e1
      subst e1
      refine v_rng 1 2 rfl (by omega) rfl (fun _ => z_nf ?_) (fun q => absurd hin q)
      rw [nI_clamp (by omega), f86]
      exact ⟨vp_in_nI hi (by omega), fun q => absurd (o1.symm.trans z) q, fun _ => h2 _ hthr⟩
  · unfold w_X9_back
    intro M1 e1
    subst e1
    exact v_rng 1 2 rfl (by omega) rfl (fun q => absurd q hin) (fun _ => z_nt (h2 _ hthr))
