/-! images are kept -/
theorem rG_cls {wl ft wl' ft' : Nat → Int32} {gr gd : Int32} {s : Nat → Int32} (h1 : ∀ k, k < 96 → wl' k = wl k) (h2 : ∀ k, k < 96 → ft' k = ft k) (hG : rG wl ft gr gd s) : rG wl' ft' gr gd s := by
  obtain ⟨a, b, c, e⟩ := hG
  refine ⟨fun x hx => ?_, fun x hx => ?_, c, e⟩
  · rw [h1 _ (by omega), h1 _ (by omega)]
    exact a x hx
  · rw [h2 _ (by omega), h2 _ (by omega)]
    exact b x hx
theorem rH_cong {n : Nat} {t : Int32} {ys ls ys' ls' s s' : Nat → Int32} (h1 : ∀ k, k < 6 → ys' k = ys k) (h2 : ∀ k, k < 6 → ls' k = ls k) (h3 : ∀ k, 194 ≤ k → k < 207 → s' k = s k) (hH : rH n t ys ls s) : rH n t ys' ls' s' := by
  obtain ⟨k, a, b, c, e⟩ := hH
  refine ⟨k, a, b, by rw [h3 194 (by omega) (by omega)]; exact c, fun i hi => ?_⟩
  rw [h1 i (by omega), h2 i (by omega), h3 (195 + 2 * i) (by omega) (by omega), h3 (196 + 2 * i) (by omega) (by omega)]
  exact e i hi
theorem cnt3 {A : Type} {b : (xMem → A → Int32 → Prop) → xMem → A → Int32 → Prop} {M : xMem} {p : A} (N : Nat) (hN : N < 100000) (I : Nat → xMem → Prop) (h0 : I 0 M) (hs : ∀ (r : xMem → A → Int32 → Prop) (k : Nat) (M : xMem), k ≤ N → I k M → (k < N → ∀ M', I (k + 1) M' → r M' p (nI (k + 1))) → b r M p (nI k)) : xlp3 b M p 0 := by
  refine xlp3_of (I := fun M' p' c => p' = p ∧ ∃ k, k ≤ N ∧ c = nI k ∧ I k M') (mu := fun _ _ c => N - c.toNatClampNeg) ?_ ⟨rfl, 0, Nat.zero_le _, rfl, h0⟩
  intro r M' p' c hI hr
  obtain ⟨rfl, k, hk, rfl, hI⟩ := hI
  refine hs r k M' hk hI (fun hk2 M2 hI2 => hr _ _ _ ⟨rfl, k + 1, hk2, rfl, hI2⟩ ?_)
  show N - (nI (k + 1)).toNatClampNeg < N - (nI k).toNatClampNeg
  rw [nI_clamp (by omega), nI_clamp (by omega)]
  omega
def kI (R o : Nat) (g : Nat → Int32) (M0 : xMem) (m : Nat) (M : xMem) : Prop := (∀ i, i ≠ R → M.1 i = M0.1 i) ∧ M.2 = M0.2 ∧ (∀ k, (k < o ∨ o + m ≤ k) → M.1 R k = M0.1 R k) ∧ ∀ k, k < m → M.1 R (o + k) = g k
theorem kI_0 {R o : Nat} {g : Nat → Int32} {M : xMem} : kI R o g M 0 M := ⟨fun _ _ => rfl, rfl, fun _ _ => rfl, fun k hk => absurd hk (Nat.not_lt_zero _)⟩
theorem kI_S {R o : Nat} {g : Nat → Int32} {M0 M : xMem} {m : Nat} {x : Int32} (h : kI R o g M0 m M) (ex : x = g m) : kI R o g M0 (m + 1) (xset M R (o + m) x) := by
  obtain ⟨h1, h2, h3, h4⟩ := h
  refine ⟨fun i hi => ?_, h2, fun k hk => ?_, fun k hk => ?_⟩
  · rw [m_row _ _ _ hi]
    exact h1 i hi
  · rw [m_col _ _ _ (by omega)]
    exact h3 k (by omega)
  · by_cases e : k = m
    · subst e
      rw [m_same, ex]
    · rw [m_col _ _ _ (by omega)]
      exact h4 k (by omega)
theorem r_keep {M : xMem} {i : Nat} {post : Int32 → xMem → Prop} (hi : i < 2) (hK : ∀ M', kI 85 (207 * i) (M.1 83) M 207 M' → post (M'.1 83 194) (xset M' 86 i 1)) : xlp3 (b_X9_keep_18 post) M (nI i) 0 := by
  have e194 : (194 : Int32).toNatClampNeg = 194 := by decide
  refine cnt3 207 (by omega) (fun k M' => kI 85 (207 * i) (M.1 83) M k M') kI_0 (fun r k M' hk hI hr => ?_)
  unfold b_X9_keep_18
  refine ⟨fun q => ?_, fun q => ?_⟩
  · have hl : 207 ≤ k := (li_le (n := 207) (by omega) (by decide)).mp q
    have e : k = 207 := by omega
    subst e
    refine ⟨vp_in_nI hi (by omega), fun M3 e3 => ?_⟩
    rw [nI_clamp (by omega)] at e3
    subst e3
    rw [e194]
    show post ((xset M' 86 i 1).1 83 194) _
    rw [m_row _ _ _ (by omega)]
    exact hK M' hI
  · have hl : k < 207 := Nat.lt_of_not_le (fun q2 => q ((li_le (by omega) (by decide)).mpr q2))
    have ea : (207 : Int32) * nI i + nI k = nI (207 * i + k) := by rw [show (207 : Int32) = nI 207 from rfl, pk_mul, nI_add]
    refine ⟨vp_in_nI hl (by omega), by rw [ea]; exact vp_in_nI (by omega) (by omega), fun M6 e6 => ?_⟩
    rw [ea, nI_clamp (by omega), nI_clamp (by omega)] at e6
    rw [nI_1]
    refine hr hl M6 ?_
    rw [e6]
    refine kI_S hI ?_
    show M'.1 83 k = M.1 83 k
    rw [hI.1 83 (by omega)]
/-- what the class's image holds after it was kept -/
theorem P_keep {M : xMem} (hR : RelE M) (a0 : Int32) {K : Int32 → xMem → Prop} (hK : ∀ r M1, (∀ K2 : Int32 → xMem → Prop, (∀ M2, RelE M2 → K2 r M2) → w_X9_keep M1 a0 K2) → K r M1) : w_X8_keep M a0 K := by
  obtain ⟨h, d, w, hg, f, nw, nd, hR⟩ := hR
  obtain ⟨hh, e5, hk⟩ := Rel_h hR
  obtain ⟨r1, r2, r3, r4, r5, r6, r7, r8, r9, r10, r11, r12, r13⟩ := id hR
  have hthr : RelE (xset M 81 0 0) := ⟨h, d, w, hg, f, nw, nd, Rel_thr hR⟩
  have kh : kd (h + 1) = 0 := by rcases hh with rfl | rfl <;> decide
  unfold w_X8_keep
  refine u_rng 1 2 rfl (by omega) rfl (fun hin => z_nf ?_) (fun hin => z_nt (hK _ _ (fun K2 h2 => ?_)))
  · obtain ⟨i, hi, rfl⟩ := id hin
    rw [nI_clamp (by omega), show 0 + 20 + 1 + 7 * i = 21 + 7 * i by omega]
    have ki : kd (21 + 7 * i + 1) = 0 := by rcases (show i = 0 ∨ i = 1 by omega) with rfl | rfl <;> decide
    have kj : kd (21 + 7 * i + 4) = 1 := by rcases (show i = 0 ∨ i = 1 by omega) with rfl | rfl <;> decide
    refine ⟨vp_in_nI hi (by omega), fun M5 e5' => ?_⟩
    have f5 : M5.1 0 5 = M.1 0 5 := by rw [e5', m_row _ _ _ (by omega)]
    rw [f5, e5]
    refine ⟨hk, ?_⟩
    unfold w_X0_becomes
    refine ⟨ki, kh, fun A1 eA1 A2 eA2 A3 eA3 A4 eA4 => ?_⟩
    unfold w_X1_becomes
    refine ⟨kj, by decide, fun B1 eB1 B2 eB2 B3 eB3 => ?_⟩
    -- rows that stay
    have g : ∀ j, (j < 21 + 7 * i ∨ 28 + 7 * i ≤ j) → B3.1 j = M.1 j := fun j hj => by
      rw [eB3, m_row _ _ _ (by omega), eB2, m_rrow _ _ (by omega), eB1, m_rrow _ _ (by omega), eA4, m_row _ _ _ (by omega), eA3, m_row _ _ _ (by omega), eA2, m_rrow _ _ (by omega), eA1, m_rrow _ _ (by omega), e5', m_row _ _ _ (by omega)]
    have q2 : B3.2 = M.2 := by rw [eB3, m_snd, eB2, m_rsnd, eB1, m_rsnd, eA4, m_snd, eA3, m_snd, eA2, m_rsnd, eA1, m_rsnd, e5', m_snd]
    have s0 : B3.1 (21 + 7 * i) 2 = 1 := by
      rw [eB3, m_row _ _ _ (by omega), eB2, m_rrow _ _ (by omega), eB1, m_rrow _ _ (by omega), eA4, m_row _ _ _ (by omega), eA3, m_row _ _ _ (by omega), eA2, m_rrow _ _ (by omega), eA1, m_rrow _ _ (by omega), e5', m_same]
    have cw : ∀ (F G : Nat → Int32) n k, k < n → va_cpy F G 0 0 n k = F k := fun F G n k hk => by
      rw [pk_cpy_in (Nat.zero_le _) (by omega), Nat.zero_add, Nat.sub_zero]
    have s1 : ∀ k, k < 96 → B3.1 (23 + 7 * i) k = M.1 (h + 2) k := fun k hk => by
      rw [eB3, m_row _ _ _ (by omega), eB2, m_rrow _ _ (by omega), eB1, m_rrow _ _ (by omega), eA4, m_row _ _ _ (by omega), eA3, m_row _ _ _ (by omega), eA2, m_rrow _ _ (by omega), eA1, show 23 + 7 * i = 21 + 7 * i + 1 + 1 by omega, m_rsame, cw _ _ _ _ hk, e5', m_row _ _ _ (by omega)]
    have s2 : ∀ k, k < 96 → B3.1 (24 + 7 * i) k = M.1 (h + 3) k := fun k hk => by
      rw [eB3, m_row _ _ _ (by omega), eB2, m_rrow _ _ (by omega), eB1, m_rrow _ _ (by omega), eA4, m_row _ _ _ (by omega), eA3, m_row _ _ _ (by omega), eA2, show 24 + 7 * i = 21 + 7 * i + 1 + 2 by omega, m_rsame, cw _ _ _ _ hk, eA1, m_rrow _ _ (by omega), e5', m_row _ _ _ (by omega)]
    have s3 : B3.1 (22 + 7 * i) 2 = M.1 (h + 1) 2 := by
      rw [eB3, m_row _ _ _ (by omega), eB2, m_rrow _ _ (by omega), eB1, m_rrow _ _ (by omega), eA4, show 22 + 7 * i = 21 + 7 * i + 1 by omega, m_col _ _ _ (by omega), eA3, m_same, eA2, m_rrow _ _ (by omega), eA1, m_rrow _ _ (by omega), e5', m_row _ _ _ (by omega)]
    have s4 : B3.1 (22 + 7 * i) 3 = M.1 (h + 1) 3 := by
      rw [eB3, m_row _ _ _ (by omega), eB2, m_rrow _ _ (by omega), eB1, m_rrow _ _ (by omega), eA4, show 22 + 7 * i = 21 + 7 * i + 1 by omega, m_same, eA3, m_row _ _ _ (by omega), eA2, m_rrow _ _ (by omega), eA1, m_rrow _ _ (by omega), e5', m_row _ _ _ (by omega)]
    have s5 : ∀ k, k < 6 → B3.1 (26 + 7 * i) k = M.1 18 k := fun k hk => by
      rw [eB3, m_row _ _ _ (by omega), eB2, m_rrow _ _ (by omega), eB1, show 26 + 7 * i = 21 + 7 * i + 4 + 1 by omega, m_rsame, cw _ _ _ _ hk, eA4, m_row _ _ _ (by omega), eA3, m_row _ _ _ (by omega), eA2, m_rrow _ _ (by omega), eA1, m_rrow _ _ (by omega), e5', m_row _ _ _ (by omega)]
    have s6 : ∀ k, k < 6 → B3.1 (27 + 7 * i) k = M.1 19 k := fun k hk => by
      rw [eB3, m_row _ _ _ (by omega), eB2, show 27 + 7 * i = 21 + 7 * i + 4 + 2 by omega, m_rsame, cw _ _ _ _ hk, eB1, m_rrow _ _ (by omega), eA4, m_row _ _ _ (by omega), eA3, m_row _ _ _ (by omega), eA2, m_rrow _ _ (by omega), eA1, m_rrow _ _ (by omega), e5', m_row _ _ _ (by omega)]
    have s7 : B3.1 (25 + 7 * i) 2 = M.1 17 2 := by
      rw [eB3, show 25 + 7 * i = 21 + 7 * i + 4 by omega, m_same, eB2, m_rrow _ _ (by omega), eB1, m_rrow _ _ (by omega), eA4, m_row _ _ _ (by omega), eA3, m_row _ _ _ (by omega), eA2, m_rrow _ _ (by omega), eA1, m_rrow _ _ (by omega), e5', m_row _ _ _ (by omega)]
    refine hK _ _ (fun K2 h2 => ?_)
    unfold w_X9_keep
    intro M1 e1
    refine v_rng 1 2 rfl (by omega) rfl (fun _ => z_nf ?_) (fun q => absurd hin q)
    refine r_keep hi (fun M2 hI => ?_)
    obtain ⟨u1, u2, u3, u4⟩ := hI
    have t : ∀ j, j ≠ 85 → j ≠ 81 → M2.1 j = B3.1 j := fun j a b => by rw [u1 j a, e1, m_row _ _ _ b]
    have t83 : M2.1 83 = M.1 83 := by rw [t 83 (by omega) (by omega), g 83 (by omega)]
    obtain ⟨n, n1, n2, n3, n4⟩ := id r9
    have er : M2.1 83 194 = B3.1 (0 + 17) 2 := by
      rw [t83, n3, ← n2]
      exact congrFun (g 17 (by omega)).symm 2
    rw [er]
    have G : ∀ j, (j < 21 + 7 * i ∨ 28 + 7 * i ≤ j) → j ≠ 81 → j ≠ 85 → j ≠ 86 → (xset M2 86 i 1).1 j = M.1 j := fun j a b c e => by
      rw [m_row _ _ _ e, t j c b, g j a]
    have T : ∀ j, (21 + 7 * i ≤ j ∧ j < 28 + 7 * i) → (xset M2 86 i 1).1 j = B3.1 j := fun j a => by
      rw [m_row _ _ _ (by omega), t j (by omega) (by omega)]
    refine h2 _ ⟨h, d, w, hg, f, nw, nd, Rel_soft hR (fun j hj => G j (by omega) (by omega) (by omega) (by omega)) (fun k hk => ?_) (fun k hk => by rw [G 83 (by omega) (by omega) (by omega) (by omega)]) ?_ ?_ (fun j hj => ?_) ?_⟩
    · rw [m_row _ _ _ (by omega), u1 81 (by omega), e1, m_col _ _ _ (by omega), g 81 (by omega)]
    · have e81 : (xset M2 86 i 1).1 81 3 = M.1 81 3 := by rw [m_row _ _ _ (by omega), u1 81 (by omega), e1, m_col _ _ _ (by omega), g 81 (by omega)]
      rw [G 3 (by omega) (by omega) (by omega) (by omega), G 2 (by omega) (by omega) (by omega) (by omega), G 82 (by omega) (by omega) (by omega) (by omega), e81]
      exact r5
    · rw [G 17 (by omega) (by omega) (by omega) (by omega), G 18 (by omega) (by omega) (by omega) (by omega), G 19 (by omega) (by omega) (by omega) (by omega), G 83 (by omega) (by omega) (by omega) (by omega)]
      exact r9
    · by_cases e : j = i
      · subst e
        have b1 : (xset M2 86 j 1).1 86 j = 1 := m_same _ _ _ _
        have b2 : ∀ k, k < 207 → (xset M2 86 j 1).1 85 (207 * j + k) = M.1 83 k := fun k hk => by
          rw [m_row _ _ _ (by omega), u4 k hk, e1, m_row _ _ _ (by omega), g 83 (by omega)]
        rw [T (21 + 7 * j) (by omega), T (22 + 7 * j) (by omega), T (23 + 7 * j) (by omega), T (24 + 7 * j) (by omega), T (25 + 7 * j) (by omega), T (26 + 7 * j) (by omega), T (27 + 7 * j) (by omega), b1, s0, s3, s4, s7]
        refine ⟨rfl, Or.inr ⟨rfl, rS_cong (fun k hk => b2 k (by omega)) r6.1, rG_cls s1 s2 (rG_cong (fun k hk => b2 k (by omega)) r8), rH_cong s5 s6 (fun k _ hk => b2 k hk) r9⟩⟩
      · have b1 : (xset M2 86 i 1).1 86 j = M.1 86 j := by rw [m_col _ _ _ e, t 86 (by omega) (by omega), g 86 (by omega)]
        have b2 : (fun k => (xset M2 86 i 1).1 85 (207 * j + k)) = fun k => if k < 207 then M.1 85 (207 * j + k) else (xset M2 86 i 1).1 85 (207 * j + k) := by
          funext k
          by_cases hk : k < 207
          · rw [if_pos hk, m_row _ _ _ (by omega), u3 _ (by omega), e1, m_row _ _ _ (by omega), g 85 (by omega)]
          · rw [if_neg hk]
        have b3 : ∀ k, k < 207 → (xset M2 86 i 1).1 85 (207 * j + k) = M.1 85 (207 * j + k) := fun k hk => by
          have := congrFun b2 k
          rw [if_pos hk] at this
          exact this
        rw [G (21 + 7 * j) (by omega) (by omega) (by omega) (by omega), G (22 + 7 * j) (by omega) (by omega) (by omega) (by omega), G (23 + 7 * j) (by omega) (by omega) (by omega) (by omega), G (24 + 7 * j) (by omega) (by omega) (by omega) (by omega), G (25 + 7 * j) (by omega) (by omega) (by omega) (by omega), G (26 + 7 * j) (by omega) (by omega) (by omega) (by omega), G (27 + 7 * j) (by omega) (by omega) (by omega) (by omega), b1]
        obtain ⟨o1, o2⟩ := r10 j hj
        refine ⟨o1, o2.imp id (fun ⟨a, b, c, e⟩ => ⟨a, rS_cong (fun k hk => b3 k (by omega)) b, rG_cong (fun k hk => b3 k (by omega)) c, rH_cong (fun _ _ => rfl) (fun _ _ => rfl) (fun k _ hk => b3 k hk) e⟩)⟩
    · show M2.2 0 = M2.2 1
      rw [u2, e1, m_snd, q2]
      exact r13
  · unfold w_X9_keep
    intro M1 e1
    subst e1
    exact v_rng 1 2 rfl (by omega) rfl (fun q => absurd q hin) (fun _ => z_nt (h2 _ hthr))
