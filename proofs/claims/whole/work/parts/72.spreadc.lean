/-! the class's spread gives the least closed table -/
theorem nb_ne {w a : Nat} (hw : 1 ≤ w) : ¬ nbE w a a := by
  unfold nbE
  omega
theorem u_spread {M : xMem} {h R w hg f src z : Nat} {s : Nat → Int32} {post : xMem → Prop} (hw : 1 ≤ w) (hw2 : w ≤ 8) (hg2 : hg ≤ 6) (hf : f < 10) (hN : w * hg ≤ 48) (hk : kd h = 2) (hR10 : kd R = 10) (hR48 : ln R = 48) (hkd : kd (h + 1) = 0) (hRh : R ≠ h ∧ R ≠ h + 1 ∧ R ≠ h + 2 ∧ R ≠ h + 3 ∧ R ≠ 5) (hsrc : src < w * hg) (hz : z < 1000) (hS : rS s) (e0 : M.1 h 0 = nI w) (e1 : M.1 h 1 = nI hg) (e5 : M.1 5 2 = nI f) (hG : rG (M.1 (h + 2)) (M.1 (h + 3)) (M.1 (h + 1) 2) (M.1 (h + 1) 3) s) (hK : ∀ M', (∀ j, j ≠ R → M'.1 j = M.1 j) → M'.2 = M.2 → rL w hg f s src z (M'.1 R) → post M') : w_X6_spread M h (nI src) (nI z) R post := by
  have hp := passN_p w f s
  obtain ⟨q0, q1, q2, q3, q5⟩ := id hRh
  unfold w_X6_spread
  refine c_fill hR10 (by omega) (fun M2 a1 a2 a3 a4 => ⟨hR10, by rw [hR48]; exact vp_in_nI (by omega) (by omega), fun M5 e5' => ?_⟩)
  rw [nI_clamp (by omega)] at e5'
  have g : ∀ j, j ≠ R → M5.1 j = M.1 j := fun j hj => by rw [e5', m_row _ _ _ hj]; exact a1 j hj
  have hT : ∀ y, y < w * hg → M5.1 R y = nI (if y = src then z else 0) := fun y hy => by
    rw [e5']
    by_cases e : y = src
    · subst e
      rw [m_same, if_pos rfl]
    · rw [m_col _ _ _ e, if_neg e]
      exact a4 y (by omega)
  have hT2 : ∀ y, y < w * hg → rsT R 0 M5 y = if y = src then z else 0 := fun y hy => by
    unfold rsT
    rw [Nat.zero_add, hT y hy, nI_clamp (by split <;> omega)]
  have h0 : rSS R 0 (w * hg) (nbE w) (passN w f s) src z M5 M5 := ⟨fun _ _ => rfl, rfl, fun _ _ => rfl, fun y hy => by rw [hT2 y hy, Nat.zero_add]; exact hT y hy, sp_be0 hT2, by rw [hT2 src hsrc, if_pos rfl]; exact Nat.le_refl _⟩
  have c0 : M5.1 h 0 = nI w := by rw [g h (Ne.symm q0)]; exact e0
  have c1 : M5.1 h 1 = nI hg := by rw [g h (Ne.symm q0)]; exact e1
  have c5 : M5.1 5 2 = nI f := by rw [g 5 (Ne.symm q5)]; exact e5
  have cG : rG (M5.1 (h + 2)) (M5.1 (h + 3)) (M5.1 (h + 1) 2) (M5.1 (h + 1) 3) s := by
    rw [g (h + 1) (Ne.symm q1), g (h + 2) (Ne.symm q2), g (h + 3) (Ne.symm q3)]
    exact hG
  have fin : ∀ M', rSS R 0 (w * hg) (nbE w) (passN w f s) src z M5 M' → sp_L (w * hg) (nbE w) (passN w f s) src z (rsT R 0 M') → post M' := fun M' h1 h2 => by
    refine hK M' (fun j hj => (h1.1 j hj).trans (g j hj)) ?_ ⟨_, h2, fun y hy => ?_⟩
    · rw [h1.2.1, e5', m_snd, a2]
    · have := h1.2.2.2.1 y hy
      rw [Nat.zero_add] at this
      exact this
  refine xlp5_of (I := fun M' a b fl q => a = h ∧ b = R ∧ ∃ k, k ≤ 48 ∧ q = nI k ∧ rSS R 0 (w * hg) (nbE w) (passN w f s) src z M5 M' ∧ sp_far (w * hg) (nbE w) (passN w f s) src z (rsT R 0 M') k ∧ ((fl = 0 ∧ sp_cl (w * hg) (nbE w) (passN w f s) src z (rsT R 0 M')) ∨ fl = 1)) (mu := fun _ _ _ _ q => 48 - q.toNatClampNeg) ?_ ⟨rfl, rfl, 0, by omega, rfl, h0, sp_far0, Or.inr rfl⟩
  intro r M1 a b fl q hI hr
  obtain ⟨rfl, rfl, k, hk', rfl, h1, hfar, hfl⟩ := hI
  unfold b_X6_spread_17
  refine ⟨fun q => ?_, fun q => ⟨fun f0 => ?_, fun nf => ?_⟩⟩
  · have e : k = 48 := Nat.le_antisymm hk' ((li_le (n := 48) (by omega) (by decide)).mp q)
    subst e
    exact fin M1 h1 (sp_done hp hsrc h1.2.2.2.2.1 hfar hN)
  · rcases hfl with ⟨_, hc⟩ | f1
    · exact fin M1 h1 ⟨hc, h1.2.2.2.2.1⟩
    · rw [f1] at f0
      exact absurd f0 (by decide)
  · have hl : k < 48 := Nat.lt_of_not_le (fun q2 => q ((li_le (by omega) (by decide)).mpr q2))
    refine u_sweepOn hw hw2 hg2 hf hN hk hR10 hR48 hkd hRh hz hS c0 c1 c5 cG h1 (fun M4 hon => ?_)
    refine u_sweepAg hw hw2 hg2 hf hN hk hR10 hR48 hkd hRh hz hS c0 c1 c5 cG hon.1 (fun fl2 M6 hag => ?_)
    obtain ⟨o1, o2, o3⟩ := hon
    obtain ⟨g1, g2, g3, g4⟩ := hag
    rw [nI_1]
    refine hr M6 _ _ _ _ ⟨rfl, rfl, k + 1, hl, rfl, g1, ?_, ?_⟩ ?_
    · refine sp_farS hp h1.2.2.2.2.2 hfar (fun y hy => Nat.le_trans (o2 y hy) (g2 y hy)) (fun a' b' ha hb he => ?_)
      have m1 := hp.1 a' b' _ _ (o2 a' ha)
      rcases Nat.lt_trichotomy a' b' with lt | eq | gt
      · exact Nat.le_trans m1 (Nat.le_trans (o3 a' b' ha hb lt he trivial) (g2 b' hb))
      · subst eq
        exact absurd he (nb_ne hw)
      · exact Nat.le_trans m1 (g4 a' b' ha hb gt he trivial)
    · rcases g3 with ⟨z0, eq⟩ | z1
      · refine Or.inl ⟨z0, g1.2.2.2.2.2, fun a' b' ha hb he => ?_⟩
        rw [eq a' ha]
        rcases Nat.lt_trichotomy a' b' with lt | e | gt
        · rw [eq b' hb]
          exact o3 a' b' ha hb lt he trivial
        · subst e
          exact absurd he (nb_ne hw)
        · exact g4 a' b' ha hb gt he trivial
      · exact Or.inr z1
    · show 48 - (nI (k + 1)).toNatClampNeg < 48 - (nI k).toNatClampNeg
      rw [nI_clamp (by omega), nI_clamp (by omega)]
      omega
