theorem lcmp_br {A B : Prop} {z : Int64} (a : A) : ((lg_cmp z z = 0) → A) ∧ (¬ (lg_cmp z z = 0) → B) := by
  have e : lg_cmp z z = 0 := by simp [lg_cmp]
  exact ⟨fun _ => a, fun q => absurd e q⟩
/-! the law's loop out of the pairs -/
theorem lp_int {L k : Nat} (hL : L ≤ 2560) (hk : k ≤ 2600) : ((nI L - (5 : Int32)) < nI k) ↔ (L : Int) - 5 < k := by
  rw [q_lt, q_toI _ (by omega)]
  have e : (nI L - (5 : Int32)).toInt = (L : Int) - 5 := by
    rw [show (5 : Int32) = nI 5 from rfl]
    exact pk_sub_toInt (by omega) (by omega)
  rw [e]
theorem lp_add (k c : Nat) : nI k + (OfNat.ofNat c : Int32) = nI (k + c) := nI_add k c
theorem law_loop {L : Nat} {xs : Nat → Int32} (hL : L ≤ 2560) {M : xMem} (hR : RelE M) : xlp2 (b_L_law_18 (fun r _ => r = 1) L xs) M 0 := by
  refine xlp2_of (I := fun M p => RelE M ∧ ∃ k, k ≤ 2600 ∧ p = nI k) (mu := fun _ p => 2600 - p.toNatClampNeg) ?_ ⟨hR, 0, by omega, rfl⟩
  intro r M p hI hr
  obtain ⟨hR, k, hk, rfl⟩ := hI
  unfold b_L_law_18
  refine ⟨fun _ => rfl, fun h => ?_⟩
  have h1 : k + 5 ≤ L := by
    have := mt (lp_int hL hk).mpr h
    omega
  have g0 : vp_in (nI k) L := vp_in_nI (by omega) (by omega)
  have g1 : vp_in (nI k + (1 : Int32)) L := by rw [show nI k + (1 : Int32) = nI (k + 1) from nI_add k 1]; exact vp_in_nI (by omega) (by omega)
  have g2 : vp_in (nI k + (2 : Int32)) L := by rw [show nI k + (2 : Int32) = nI (k + 2) from nI_add k 2]; exact vp_in_nI (by omega) (by omega)
  have g3 : vp_in (nI k + (3 : Int32)) L := by rw [show nI k + (3 : Int32) = nI (k + 3) from nI_add k 3]; exact vp_in_nI (by omega) (by omega)
  have g4 : vp_in (nI k + (4 : Int32)) L := by rw [show nI k + (4 : Int32) = nI (k + 4) from nI_add k 4]; exact vp_in_nI (by omega) (by omega)
  have nx : ∀ M2, RelE M2 → b_L_law_924 (fun r _ => r = 1) L xs r M2 (nI k) := by
    intro M2 h2
    unfold b_L_law_924
    rw [show nI k + (5 : Int32) = nI (k + 5) from nI_add k 5]
    refine hr M2 (nI (k + 5)) ⟨h2, k + 5, by omega, rfl⟩ ?_
    show 2600 - (nI (k + 5)).toNatClampNeg < 2600 - (nI k).toNatClampNeg
    rw [nI_clamp (by omega), nI_clamp (by omega)]
    omega
  clear hr
  refine ⟨g0, ⟨fun _ => ⟨g1, g2, g3, P_type hR _ _ (fun z M1 hf => ⟨g1, g2, g3, hf _ (fun M2 h2 => ⟨fun _ => nx M2 h2, fun q => absurd rfl q⟩)⟩)⟩, fun _ => P_clear hR  (fun z M1 hf => hf _ (fun M2 h2 => ⟨fun _ => nx M2 h2, fun q => absurd rfl q⟩)), fun _ => P_hill hR  (fun z M1 hf => hf _ (fun M2 h2 => ⟨fun _ => nx M2 h2, fun q => absurd rfl q⟩)), fun _ => ⟨g1, g2, g3, P_between hR _ _ _ (fun z M1 hf => ⟨g1, g2, g3, hf _ (fun M2 h2 => ⟨fun _ => nx M2 h2, fun q => absurd rfl q⟩)⟩)⟩, fun _ => ⟨g1, g2, g3, g4, P_build hR _ _ _ _ (fun z M1 hf => ⟨g1, g2, g3, g4, hf _ (fun M2 h2 => ⟨fun _ => nx M2 h2, fun q => absurd rfl q⟩)⟩)⟩, fun _ => ⟨g1, g2, P_wind hR _ _ (fun z M1 hf => ⟨g1, g2, hf _ (fun M2 h2 => ⟨fun _ => nx M2 h2, fun q => absurd rfl q⟩)⟩)⟩, fun _ => ⟨g1, P_fade hR _ (fun z M1 hf => ⟨g1, hf _ (fun M2 h2 => ⟨fun _ => nx M2 h2, fun q => absurd rfl q⟩)⟩)⟩, fun _ => ⟨g1, g2, P_worker hR _ _ (fun z M1 hf => ⟨g1, g2, hf _ (fun M2 h2 => ⟨fun _ => nx M2 h2, fun q => absurd rfl q⟩)⟩)⟩, fun _ => ⟨g1, g2, P_deed hR _ _ (fun z M1 hf => ⟨g1, g2, hf _ (fun M2 h2 => ⟨fun _ => nx M2 h2, fun q => absurd rfl q⟩)⟩)⟩, fun _ => ⟨g1, g2, P_loud hR _ _ (fun z M1 hf => ⟨g1, g2, hf _ (fun M2 h2 => ⟨fun _ => nx M2 h2, fun q => absurd rfl q⟩)⟩)⟩, fun _ => ⟨g1, g2, P_heard hR _ _ (fun z M1 hf => ⟨g1, g2, hf _ (fun M2 h2 => ⟨fun _ => nx M2 h2, fun q => absurd rfl q⟩)⟩)⟩, fun _ => ⟨g1, g2, P_broken hR _ _ (fun z M1 hf => ⟨g1, g2, hf _ (fun M2 h2 => ⟨fun _ => nx M2 h2, fun q => absurd rfl q⟩)⟩)⟩, fun _ => ⟨g1, g2, g3, P_plan hR _ _ _ (fun z M1 hf => ⟨g1, g2, g3, hf _ (fun M2 h2 => ⟨fun _ => nx M2 h2, fun q => absurd rfl q⟩)⟩)⟩, fun _ => ⟨g1, P_day hR _ (fun z M1 hf => ⟨g1, hf _ (fun M2 h2 => ⟨fun _ => nx M2 h2, fun q => absurd rfl q⟩)⟩)⟩, fun _ => ⟨g1, g2, g3, P_best hR _ _ _ (fun z M1 hf => ⟨g1, g2, g3, hf _ (fun M2 h2 => ⟨fun _ => nx M2 h2, fun q => absurd rfl q⟩)⟩)⟩, fun _ => ⟨g1, g2, g3, P_saw hR _ _ _ (fun z M1 hf => ⟨g1, g2, g3, hf _ (fun M2 h2 => ⟨fun _ => nx M2 h2, fun q => absurd rfl q⟩)⟩)⟩, fun _ => ⟨g1, g2, P_hear hR _ _ (fun z M1 hf => ⟨g1, g2, hf _ (fun M2 h2 => ⟨fun _ => nx M2 h2, fun q => absurd rfl q⟩)⟩)⟩, fun _ => P_forget hR  (fun z M1 hf => hf _ (fun M2 h2 => ⟨fun _ => nx M2 h2, fun q => absurd rfl q⟩)), fun _ => ⟨g1, P_who hR _ (fun z M1 hf => ⟨g1, hf _ (fun M2 h2 => ⟨fun _ => nx M2 h2, fun q => absurd rfl q⟩)⟩)⟩, fun _ => ⟨g1, g2, P_price hR _ _ (fun z M1 hf => ⟨g1, g2, hf _ (fun M2 h2 => ⟨fun _ => nx M2 h2, fun q => absurd rfl q⟩)⟩)⟩, fun _ => ⟨g1, g2, P_rate hR _ _ (fun z M1 hf => ⟨g1, g2, hf _ (fun M2 h2 => ⟨fun _ => nx M2 h2, fun q => absurd rfl q⟩)⟩)⟩, fun _ => ⟨g1, P_keep hR _ (fun z M1 hf => ⟨g1, hf _ (fun M2 h2 => ⟨fun _ => nx M2 h2, fun q => absurd rfl q⟩)⟩)⟩, fun _ => ⟨g1, P_back hR _ (fun z M1 hf => ⟨g1, hf _ (fun M2 h2 => ⟨fun _ => nx M2 h2, fun q => absurd rfl q⟩)⟩)⟩, fun _ => ⟨g1, P_count hR _ (fun z M1 hf => ⟨g1, hf _ (fun M2 h2 => ⟨fun _ => nx M2 h2, fun q => absurd rfl q⟩)⟩)⟩, fun _ => P_trace hR  (fun z M1 hf => hf _ (fun M2 h2 => lcmp_br (nx M2 h2))), fun _ _ _ _ _ _ _ _ _ _ _ _ _ _ _ _ _ _ _ _ _ _ _ _ _ => nx M hR⟩⟩
