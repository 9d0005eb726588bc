/-! hearsay, rates, typing -/
theorem P_hear {M : xMem} (hR : RelE M) (a0 : Int32) (a1 : Int32) {K : Int32 → xMem → Prop} (hK : ∀ r M1, (∀ K2 : Int32 → xMem → Prop, (∀ M2, RelE M2 → K2 r M2) → w_X9_hear M1 a0 a1 K2) → K r M1) : w_X8_hear M a0 a1 K := by
  obtain ⟨h, d, w, hg, f, nw, nd, hR⟩ := hR
  obtain ⟨hh, e5, hk⟩ := Rel_h hR
  obtain ⟨r1, r2, r3, r4, r5, r6, r7, r8, r9, r10, r11, r12, r13⟩ := id hR
  have hb := (rB_bounds r3).2
  have hthr : RelE (xset M 81 0 0) := ⟨h, d, w, hg, f, nw, nd, Rel_thr hR⟩
  have e9 : (xset M 81 0 0).1 81 9 = nI w := (m_col _ _ _ (by omega)).trans r4.1
  have e10 : (xset M 81 0 0).1 81 10 = nI hg := (m_col _ _ _ (by omega)).trans r4.2.1
  have e194 : (194 : Int32).toNatClampNeg = 194 := by decide
  unfold w_X8_hear
  rw [e5]
  refine u_isYard hk r7.1.1 r7.1.2.1 (by omega) (fun hin => z_f ?_) (fun hin => z_t ?_)
  · refine u_rng 999 1000 rfl (by omega) rfl (fun hin2 => ⟨fun _ => ?_, fun q => absurd q (by decide)⟩) (fun hin2 => ⟨fun q => absurd rfl q, fun _ => ?_⟩)
    · obtain ⟨n, n1, n2, n3, n4⟩ := id r9
      have n2' : M.1 (0 + 17) 2 = nI n := n2
      unfold w_X1_add
      rw [n2']
      have e83 : (xset M 81 0 0).1 83 194 = nI n := n3
      refine ⟨rfl, fun q => ?_, fun q => ?_⟩
      · have hlt : n < 6 := (nI_ltI (by omega) (by omega)).mp q
        refine ⟨vp_in_nI hlt (by omega), fun M3 e3 => ?_⟩
        rw [nI_clamp (by omega)] at e3
        have f3 : M3.1 (0 + 17) 2 = nI n := by rw [e3, m_row _ _ _ (by omega)]; exact n2'
        rw [f3]
        refine ⟨vp_in_nI hlt (by omega), fun M5 e5' => ?_⟩
        rw [nI_clamp (by omega)] at e5'
        have f5 : M5.1 (0 + 17) 2 = nI n := by rw [e5', m_row _ _ _ (by omega)]; exact f3
        rw [f5]
        intro M6 e6
        subst e3
        subst e5'
        have f6 : M6.1 (0 + 17) 2 = nI (n + 1) := by rw [e6, m_same]; exact nI_1 n
        rw [f6]
        refine hK _ _ (fun K2 h2 => ?_)
        unfold w_X9_hear
        intro M7 e7
        have g6 : ∀ i, i ≠ 17 → i ≠ 18 → i ≠ 19 → M6.1 i = M.1 i := fun i h1 h2 h3 => by
          rw [e6, m_row _ _ _ h1, m_row _ _ _ h3, m_row _ _ _ h2]
        have g7 : ∀ i, i ≠ 17 → i ≠ 18 → i ≠ 19 → i ≠ 81 → M7.1 i = M.1 i := fun i h1 h2 h3 h4 => by
          rw [e7, m_row _ _ _ h4, g6 i h1 h2 h3]
        have s7 : ∀ k, k ≠ 0 → M7.1 81 k = M.1 81 k := fun k hk => by
          rw [e7, m_col _ _ _ hk, g6 81 (by omega) (by omega) (by omega)]
        refine v_isYard ((s7 9 (by omega)).trans r4.1) ((s7 10 (by omega)).trans r4.2.1) (by omega) (fun _ => z_f ?_) (fun q => absurd hin q)
        refine v_rng 999 1000 rfl (by omega) rfl (fun _ => ⟨fun _ => ?_, fun q => absurd q (by decide)⟩) (fun q => absurd hin2 q)
        have t0 : M7.1 (81 + 2) (194 : Int32).toNatClampNeg = nI n := by
          rw [e194]
          show M7.1 83 194 = _
          rw [g7 83 (by omega) (by omega) (by omega) (by omega)]
          exact n3
        rw [t0]
        have e195 : (195 : Int32) + (2 : Int32) * nI n = nI (195 + 2 * n) := by
          rw [show (195 : Int32) = nI 195 from rfl, show (2 : Int32) = nI 2 from rfl, pk_mul, nI_add]
        have e196 : nI (195 + 2 * n) + (1 : Int32) = nI (196 + 2 * n) := by
          rw [nI_1]
          rw [show 195 + 2 * n + 1 = 196 + 2 * n by omega]
        refine ⟨fun _ => ?_, fun q => absurd (q_inj (a := n) (b := 6) (by omega) (by omega) q) (by omega)⟩
        rw [e195]
        refine ⟨vp_in_nI (by omega) (by omega), fun M8 e8 => ?_⟩
        rw [nI_clamp (by omega)] at e8
        have t8 : M8.1 (81 + 2) (194 : Int32).toNatClampNeg = nI n := by
          rw [e194, e8, m_col _ _ _ (by omega), ← e194]
          exact t0
        rw [t8, e195, e196]
        refine ⟨vp_in_nI (by omega) (by omega), fun M9 e9' => ?_⟩
        rw [nI_clamp (by omega)] at e9'
        have t9 : M9.1 (81 + 2) (194 : Int32).toNatClampNeg = nI n := by
          rw [e194, e9', m_col _ _ _ (by omega), ← e194]
          exact t8
        rw [t9]
        intro M10 e10'
        have t10 : M10.1 (81 + 2) (194 : Int32).toNatClampNeg = nI (n + 1) := by
          rw [e10', m_same]
          exact nI_1 n
        rw [t10]
        rw [e194] at e10'
        have p10 : ∀ i, i ≠ 83 → M10.1 i = M7.1 i := fun i hi => by
          rw [e10', m_row _ _ _ hi, e9', m_row _ _ _ hi, e8, m_row _ _ _ hi]
        have p83 : ∀ k, k ≠ 194 → k ≠ 195 + 2 * n → k ≠ 196 + 2 * n → M10.1 83 k = M.1 83 k := fun k h1 h2 h3 => by
          rw [e10']
          show (xset M9 83 194 _).1 83 k = _
          rw [m_col _ _ _ h1, e9']
          show (xset M8 83 _ _).1 83 k = _
          rw [m_col _ _ _ h3, e8]
          show (xset M7 83 _ _).1 83 k = _
          rw [m_col _ _ _ h2, g7 83 (by omega) (by omega) (by omega) (by omega)]
        have p195 : M10.1 83 (195 + 2 * n) = a0 := by
          rw [e10']
          show (xset M9 83 194 _).1 83 _ = _
          rw [m_col _ _ _ (by omega), e9']
          show (xset M8 83 _ _).1 83 _ = _
          rw [m_col _ _ _ (by omega), e8]
          exact m_same _ _ _ _
        have p196 : M10.1 83 (196 + 2 * n) = a1 := by
          rw [e10']
          show (xset M9 83 194 _).1 83 _ = _
          rw [m_col _ _ _ (by omega), e9']
          exact m_same _ _ _ _
        have q17 : M10.1 17 2 = nI (n + 1) := by
          rw [p10 17 (by omega), e7, m_row _ _ _ (by omega)]
          exact f6
        have q18 : M10.1 18 = upd (M.1 18) n a0 := by
          rw [p10 18 (by omega), e7, m_row _ _ _ (by omega), e6, m_row _ _ _ (by omega), m_row _ _ _ (by omega)]
          exact m_upd _ _ _ _
        have q19 : M10.1 19 = upd (M.1 19) n a1 := by
          rw [p10 19 (by omega), e7, m_row _ _ _ (by omega), e6, m_row _ _ _ (by omega)]
          show (xset _ 19 _ _).1 19 = _
          rw [m_upd, m_row _ _ _ (by omega)]
        have hsnd : M10.2 = M.2 := by rw [e10', m_snd, e9', m_snd, e8, m_snd, e7, m_snd, e6, m_snd, m_snd, m_snd]
        refine h2 _ ⟨h, d, w, hg, f, nw, nd, Rel_soft hR (fun i hi => ?_) (fun k hk => ?_) (fun k hk => p83 k (by omega) (by omega) (by omega)) ?_ ?_ (fun i hi => ?_) ?_⟩
        · rw [p10 i (by omega), g7 i (by omega) (by omega) (by omega) (by omega)]
        · rw [p10 81 (by omega), s7 k (by omega)]
        · rw [p10 3 (by omega), p10 2 (by omega), p10 81 (by omega), p10 82 (by omega), g7 3 (by omega) (by omega) (by omega) (by omega), g7 2 (by omega) (by omega) (by omega) (by omega), s7 3 (by omega), g7 82 (by omega) (by omega) (by omega) (by omega)]
          exact r5
        · refine ⟨n + 1, by omega, q17, by rw [← e194]; exact t10, fun i hi => ?_⟩
          by_cases hin3 : i = n
          · subst hin3
            rw [q18, q19, pk_us, pk_us, p195, p196]
            exact ⟨rfl, rfl, hin, hin2⟩
          · rw [q18, q19, pk_un hin3, pk_un hin3, p83 _ (by omega) (by omega) (by omega), p83 _ (by omega) (by omega) (by omega)]
            exact n4 i (by omega)
        · have ge : ∀ j, (21 ≤ j ∧ j < 35 ∨ j = 85 ∨ j = 86) → M10.1 j = M.1 j := fun j hj => by
            rw [p10 j (by omega), g7 j (by omega) (by omega) (by omega) (by omega)]
          rw [ge (21 + 7 * i) (by omega), ge (22 + 7 * i) (by omega), ge (23 + 7 * i) (by omega), ge (24 + 7 * i) (by omega), ge (25 + 7 * i) (by omega), ge (26 + 7 * i) (by omega), ge (27 + 7 * i) (by omega), ge 85 (by omega), ge 86 (by omega)]
          exact r10 i hi
        · rw [hsnd]
          exact r13
      · have hlt : n = 6 := by
          have : ¬ n < 6 := fun z => q ((nI_ltI (a := n) (b := 6) (by omega) (by omega)).mpr z)
          omega
        subst hlt
        refine hK _ _ (fun K2 h2 => ?_)
        unfold w_X9_hear
        intro M1 e1
        subst e1
        refine v_isYard e9 e10 (by omega) (fun _ => z_f ?_) (fun q => absurd hin q)
        refine v_rng 999 1000 rfl (by omega) rfl (fun _ => ⟨fun _ => ?_, fun q => absurd q (by decide)⟩) (fun q => absurd hin2 q)
        have t0 : (xset M 81 0 0).1 (81 + 2) (194 : Int32).toNatClampNeg = nI 6 := by
          rw [e194]
          exact n3
        rw [t0]
        exact ⟨fun q => absurd rfl q, fun _ => h2 _ hthr⟩
    · refine hK _ _ (fun K2 h2 => ?_)
      unfold w_X9_hear
      intro M1 e1
      subst e1
      refine v_isYard e9 e10 (by omega) (fun _ => z_f ?_) (fun q => absurd hin q)
      exact v_rng 999 1000 rfl (by omega) rfl (fun q => absurd q hin2) (fun _ => ⟨fun q => absurd rfl q, fun _ => h2 _ hthr⟩)
  · refine hK _ _ (fun K2 h2 => ?_)
    unfold w_X9_hear
    intro M1 e1
    subst e1
    exact v_isYard e9 e10 (by omega) (fun q => absurd q hin) (fun _ => z_t (h2 _ hthr))
