/-! the class's spread: fill, carry -/
theorem c_fill {M : xMem} {R : Nat} {v : Int32} {post : xMem → Prop} (hk : kd R = 10) (hl : ln R < 100000) (hK : ∀ M', (∀ j, j ≠ R → M'.1 j = M.1 j) → M'.2 = M.2 → (∀ k, ln R ≤ k → M'.1 R k = M.1 R k) → (∀ k, k < ln R → M'.1 R k = v) → post M') : w_J7_fill_53178 M R v post := by
  unfold w_J7_fill_53178
  refine ⟨hk, ?_⟩
  refine xlp5_of (I := fun M' a b q c => a = R ∧ b = v ∧ c = nI (ln R) ∧ ∃ k, k ≤ ln R ∧ q = nI k ∧ (∀ j, j ≠ R → M'.1 j = M.1 j) ∧ M'.2 = M.2 ∧ (∀ i, k ≤ i → M'.1 R i = M.1 R i) ∧ ∀ i, i < k → M'.1 R i = v) (mu := fun _ _ _ q _ => ln R - q.toNatClampNeg) ?_ ⟨rfl, rfl, rfl, 0, Nat.zero_le _, rfl, fun _ _ => rfl, rfl, fun _ _ => rfl, fun i hi => absurd hi (Nat.not_lt_zero _)⟩
  intro r M' a b q c hI hr
  obtain ⟨rfl, rfl, rfl, k, hk', rfl, g1, g2, g3, g4⟩ := hI
  unfold b_J7_fill_53178_5
  refine ⟨fun q => ?_, fun q => ?_⟩
  · have e : k = ln a := Nat.le_antisymm hk' ((nI_cond (by omega) (by omega)).mp q)
    rw [e] at g3 g4
    exact hK M' g1 g2 g3 g4
  · have hl2 : k < ln a := Nat.lt_of_not_le (fun q2 => q ((nI_cond (by omega) (by omega)).mpr q2))
    refine ⟨hk, vp_in_nI hl2 (by omega), fun M4 e4 => ?_⟩
    rw [nI_clamp (by omega)] at e4
    rw [nI_1]
    refine hr _ _ _ _ _ ⟨rfl, rfl, rfl, k + 1, hl2, rfl, fun j hj => ?_, ?_, fun i hi => ?_, fun i hi => ?_⟩ ?_
    · rw [e4, m_row _ _ _ hj]
      exact g1 j hj
    · rw [e4, m_snd]
      exact g2
    · rw [e4, m_col _ _ _ (by omega)]
      exact g3 i (by omega)
    · rw [e4]
      by_cases e : i = k
      · subst e
        rw [m_same]
      · rw [m_col _ _ _ e]
        exact g4 i (by omega)
    · show ln a - (nI (k + 1)).toNatClampNeg < ln a - (nI k).toNatClampNeg
      rw [nI_clamp (by omega), nI_clamp (by omega)]
      omega
/-- one border: what comes through is `passN`; it is written when it is more -/
theorem u_carry {M0 M : xMem} {h R N w f a b src z : Nat} {s : Nat → Int32} {post : Int32 → xMem → Prop} (hw : 1 ≤ w) (hf : f < 10) (hN : N ≤ 48) (hR10 : kd R = 10) (hR48 : ln R = 48) (hkd : kd (h + 1) = 0) (hz : z < 1000) (ha : a < N) (hb : b < N) (hS : rS s) (hG : rG (M.1 (h + 2)) (M.1 (h + 3)) (M.1 (h + 1) 2) (M.1 (h + 1) 3) s) (hM : rSS R 0 N (nbE w) (passN w f s) src z M0 M) (he : nbE w a b)
    (h1 : rsT R 0 M b < passN w f s a b (rsT R 0 M a) → post 1 (xset M R b (nI (passN w f s a b (rsT R 0 M a))))) (h0 : passN w f s a b (rsT R 0 M a) ≤ rsT R 0 M b → post 0 M) : w_X6_carry M (h + 1) (nI (2 * loN a b + if nbAl w a b = true then 1 else 0)) R (nI a) (nI b) (nI (lessI f (if a < b then (s (if nbAl w a b = true then 193 else 192)).toInt else -(s (if nbAl w a b = true then 193 else 192)).toInt))) post := by
  have hp := passN_p w f s
  obtain ⟨l1, l2, l3⟩ := lo_lt ha hb
  have va : M.1 R a = nI (rsT R 0 M a) := by
    have := hM.2.2.2.1 a ha
    rw [Nat.zero_add] at this
    exact this
  have vb : M.1 R b = nI (rsT R 0 M b) := by
    have := hM.2.2.2.1 b hb
    rw [Nat.zero_add] at this
    exact this
  have ta := rSS_top hp hM ha
  have tb := rSS_top hp hM hb
  obtain ⟨s1, s2, s3, s4⟩ := id hS
  have hsp : (loN a b + if nbAl w a b = true then 48 else 0) < 96 := by split <;> omega
  obtain ⟨wl, w1, w2⟩ := s1 _ hsp
  obtain ⟨t, t1, t2⟩ := s2 _ hsp
  obtain ⟨gw, gf⟩ := rG_at (al := nbAl w a b) hG (show loN a b < 48 by omega)
  have hz2 : (2 * loN a b + if nbAl w a b = true then 1 else 0) < 96 := by split <;> omega
  have w2' : (s (loN a b + if nbAl w a b = true then 48 else 0)).toNatClampNeg = wl := by rw [w2, nI_clamp (by omega)]
  have t2' : (s (96 + (loN a b + if nbAl w a b = true then 48 else 0))).toNatClampNeg = t := by rw [t2, nI_clamp (by omega)]
  have wdL : (if a < b then (s (if nbAl w a b = true then 193 else 192)).toInt else -(s (if nbAl w a b = true then 193 else 192)).toInt) = -2 ∨ True := Or.inr trivial
  generalize hlq : lessI f (if a < b then (s (if nbAl w a b = true then 193 else 192)).toInt else -(s (if nbAl w a b = true then 193 else 192)).toInt) = l at *
  have hl11 : l ≤ 1000 := by
    rw [← hlq]
    unfold lessI
    have b1 : -2 ≤ (s (if nbAl w a b = true then 193 else 192)).toInt ∧ (s (if nbAl w a b = true then 193 else 192)).toInt ≤ 2 := by
      split
      · exact s4
      · exact s3
    split <;> omega
  have eP : passN w f s a b (rsT R 0 M a) = (rsT R 0 M a - l) / 2 ^ wl - t := by
    rw [← w2', ← t2', ← hlq]
    rfl
  rw [eP] at h1 h0
  unfold w_X6_carry
  rw [hR48, nI_clamp (by omega), va]
  refine ⟨hR10, vp_in_nI (by omega) (by omega), fun q => ⟨hkd, vp_in_nI hz2 (by omega), vp_in_nI hz2 (by omega), fun v7 e7 => ⟨vp_in_nI (by omega) (by omega), ?_⟩⟩, fun q => h0 ?_⟩
  · have lt : l < rsT R 0 M a := (nI_ltI (by omega) (by omega)).mp q
    rw [nI_clamp (by omega)] at e7
    have e7' : v7 = nI ((rsT R 0 M a - l) / 2 ^ wl) - nI t := by
      rw [e7]
      show ((nI (rsT R 0 M a) - nI l) >>> (M.1 (h + 2) _ &&& (31 : Int32))) - M.1 (h + 3) _ = _
      rw [gw, gf, w2, t2, and_31 (by omega), pk_sub (Nat.le_of_lt lt), pk_shrN (by omega) (nI wl) wl (smod_k (by omega))]
    have hq : (rsT R 0 M a - l) / 2 ^ wl ≤ 1000 := Nat.le_trans (Nat.div_le_self _ _) (by omega)
    have ei : v7.toInt = (((rsT R 0 M a - l) / 2 ^ wl : Nat) : Int) - t := by
      rw [e7']
      exact pk_sub_toInt (by omega) (by omega)
    rw [nI_clamp (by omega), vb]
    refine ⟨fun y M10 e10 => ?_, fun y => h0 ?_⟩
    · rw [q_lt, q_toI _ (by omega), ei] at y
      have e8 : v7 = nI ((rsT R 0 M a - l) / 2 ^ wl - t) := by
        rw [e7']
        exact pk_sub (by omega)
      rw [e10, e8]
      exact h1 (by omega)
    · rw [q_lt, q_toI _ (by omega), ei] at y
      omega
  · have ge : rsT R 0 M a ≤ l := Nat.le_of_not_lt (fun y => q ((nI_ltI (by omega) (by omega)).mpr y))
    rw [show rsT R 0 M a - l = 0 by omega, Nat.zero_div]
    omega
