/-! the two systems begin alike -/
theorem xset_id {M : xMem} {i k : Nat} {v : Int32} (h : M.1 i k = v) : xset M i k v = M := by
  have e : va_up M.1 i (upd (M.1 i) k v) = M.1 := by
    funext j
    by_cases hj : j = i
    · subst hj
      rw [va_up_self]
      funext n
      by_cases hn : n = k
      · subst hn
        rw [pk_us, h]
      · rw [pk_un hn]
    · rw [va_up_ne _ _ hj]
  show (va_up M.1 i (upd (M.1 i) k v), M.2) = M
  rw [e]
theorem li_le {k n : Nat} (hk : k < 2147483648) (hn : n < 2147483648) : ((OfNat.ofNat n : Int32) ≤ nI k) ↔ n ≤ k := nI_leI hn hk
/-- a loop that counts from 0 up to N -/
theorem cnt2 {b : (xMem → Int32 → Prop) → xMem → Int32 → Prop} {M : xMem} (N : Nat) (hN : N < 100000) (I : Nat → xMem → Prop) (h0 : I 0 M) (hs : ∀ (r : xMem → Int32 → Prop) (k : Nat) (M : xMem), k ≤ N → I k M → (k < N → ∀ M', I (k + 1) M' → r M' (nI (k + 1))) → b r M (nI k)) : xlp2 b M 0 := by
  refine xlp2_of (I := fun M p => ∃ k, k ≤ N ∧ p = nI k ∧ I k M) (mu := fun _ p => N - p.toNatClampNeg) ?_ ⟨0, Nat.zero_le _, rfl, h0⟩
  intro r M p hI hr
  obtain ⟨k, hk, rfl, hI⟩ := hI
  refine hs r k M hk hI (fun hk2 M' hI' => hr M' (nI (k + 1)) ⟨k + 1, hk2, rfl, hI'⟩ ?_)
  show N - (nI (k + 1)).toNatClampNeg < N - (nI k).toNatClampNeg
  rw [nI_clamp (by omega), nI_clamp (by omega)]
  omega
theorem begins_loop {M : xMem} {K : xMem → Prop} (hz : ∀ k, k < 207 → M.1 84 k = 0) (hK : K M) : xlp2 (b_X9_begins_22 K) M 0 := by
  refine cnt2 207 (by omega) (fun _ M' => M' = M) rfl (fun r k M' hk e hr => ?_)
  subst e
  unfold b_X9_begins_22
  refine ⟨fun _ => hK, fun h => ?_⟩
  have hlt : k < 207 := Nat.lt_of_not_le (fun q => h ((li_le (by omega) (by decide)).mpr q))
  refine ⟨vp_in_nI hlt (by omega), fun M3 e3 => ?_⟩
  rw [nI_clamp (by omega), xset_id (hz k hlt)] at e3
  rw [show nI k + 1 = nI (k + 1) from nI_1 k]
  exact hr hlt M3 e3
theorem adopts_zero {M : xMem} {K : xMem → Prop} (h83 : ∀ k, k < 207 → M.1 83 k = M.1 84 k) (h87 : ∀ k, k < 24 → M.1 87 k = M.1 87 (24 + k)) (h88 : ∀ k, k < 40 → M.1 88 k = M.1 88 (40 + k)) (hK : K (xset (xset M 86 0 0) 86 1 0)) : xlp2 (b_X9_adopts_34 K) M 0 := by
  refine cnt2 207 (by omega) (fun _ M' => M' = M) rfl (fun r k M' hk e hr => ?_)
  subst e
  unfold b_X9_adopts_34
  refine ⟨fun _ => ?_, fun h => ?_⟩
  · refine cnt2 24 (by omega) (fun _ M1 => M1 = M') rfl (fun r k M1 hk e hr => ?_)
    subst e
    unfold b_X9_adopts_61
    refine ⟨fun _ => ?_, fun h => ?_⟩
    · refine cnt2 40 (by omega) (fun _ M2 => M2 = M1) rfl (fun r k M2 hk e hr => ?_)
      subst e
      unfold b_X9_adopts_90
      refine ⟨fun _ => ?_, fun h => ?_⟩
      · intro A e1 B e2
        subst e1
        subst e2
        exact hK
      · have hlt : k < 40 := Nat.lt_of_not_le (fun q => h ((li_le (by omega) (by decide)).mpr q))
        have ea : (40 : Int32) + nI k = nI (40 + k) := nI_add 40 k
        refine ⟨by rw [ea]; exact vp_in_nI (by omega) (by omega), vp_in_nI (by omega) (by omega), fun M6 e6 => ?_⟩
        rw [ea, nI_clamp (by omega), nI_clamp (by omega)] at e6
        rw [xset_id (h88 k hlt)] at e6
        rw [show nI k + 1 = nI (k + 1) from nI_1 k]
        exact hr hlt M6 e6
    · have hlt : k < 24 := Nat.lt_of_not_le (fun q => h ((li_le (by omega) (by decide)).mpr q))
      have ea : (24 : Int32) + nI k = nI (24 + k) := nI_add 24 k
      refine ⟨by rw [ea]; exact vp_in_nI (by omega) (by omega), vp_in_nI (by omega) (by omega), fun M6 e6 => ?_⟩
      rw [ea, nI_clamp (by omega), nI_clamp (by omega)] at e6
      rw [xset_id (h87 k hlt)] at e6
      rw [show nI k + 1 = nI (k + 1) from nI_1 k]
      exact hr hlt M6 e6
  · have hlt : k < 207 := Nat.lt_of_not_le (fun q => h ((li_le (by omega) (by decide)).mpr q))
    refine ⟨vp_in_nI hlt (by omega), vp_in_nI hlt (by omega), fun M3 e3 => ?_⟩
    rw [nI_clamp (by omega), xset_id (h83 k hlt)] at e3
    rw [show nI k + 1 = nI (k + 1) from nI_1 k]
    exact hr hlt M3 e3
/-- the memory when both have begun -/
def M02 : xMem := xset (xset (xset (xset (xset (xset (xset (xset (xset (xset M01 81 12 4) 81 13 3) 81 22 0) 81 23 0) 81 9 4) 81 10 3) 81 20 0) 81 21 0) 86 0 0) 86 1 0
theorem M02_row {i : Nat} (h : i ≠ 81) : M02.1 i = m1 i := by
  unfold M02
  by_cases e : i = 86
  · subst e
    rw [m_upd, m_upd, m_row _ _ _ h, m_row _ _ _ h, m_row _ _ _ h, m_row _ _ _ h, m_row _ _ _ h, m_row _ _ _ h, m_row _ _ _ h, m_row _ _ _ h]
    funext n
    show upd (upd (m1 86) 0 0) 1 0 n = m1 86 n
    have hz : ∀ n, m1 86 n = 0 := fun _ => rfl
    by_cases h1 : n = 1
    · subst h1
      rw [pk_us, hz]
    · rw [pk_un h1]
      by_cases h0 : n = 0
      · subst h0
        rw [pk_us, hz]
      · rw [pk_un h0]
  · rw [m_row _ _ _ e, m_row _ _ _ e, m_row _ _ _ h, m_row _ _ _ h, m_row _ _ _ h, m_row _ _ _ h, m_row _ _ _ h, m_row _ _ _ h, m_row _ _ _ h, m_row _ _ _ h]
    rfl
theorem inN_0 {n : Nat} (h : 0 < n) : inN 0 n := ⟨0, h, rfl⟩
theorem M02_rel : Rel M02 35 58 4 3 3 0 0 := by
  have z83 : ∀ k, M02.1 83 k = 0 := fun k => by rw [M02_row (by omega)]; rfl
  have z86 : ∀ k, M02.1 86 k = 0 := fun k => by rw [M02_row (by omega)]; rfl
  have zz : ∀ i k, i ≠ 81 → m1 i k = 0 → M02.1 i k = 0 := fun i k h e => by rw [M02_row h]; exact e
  refine ⟨Or.inl ⟨rfl, rfl⟩, ⟨by rw [M02_row (by omega)]; rfl, by rw [M02_row (by omega)]; rfl, by rw [M02_row (by omega)]; rfl, by rw [M02_row (by omega)]; rfl, by rw [M02_row (by omega)]; rfl, by rw [M02_row (by omega)]; rfl, by rw [M02_row (by omega)]; rfl⟩, ⟨by omega, by omega, by omega, by omega, by omega⟩, ⟨rfl, rfl, rfl, rfl, rfl, by rw [M02_row (by omega)]; rfl⟩, ⟨0, by omega, by rw [M02_row (by omega)]; rfl, rfl, fun i hi => absurd hi (Nat.not_lt_zero _)⟩, ⟨⟨fun b _ => by rw [z83]; exact inN_0 (by omega), fun b _ => by rw [z83]; exact inN_0 (by omega), by rw [z83]; decide, by rw [z83]; decide⟩, fun i hi => absurd hi (Nat.not_lt_zero _), fun i hi => absurd hi (Nat.not_lt_zero _)⟩, ?_, ?_, ?_, ?_, fun i hi => absurd hi (Nat.not_lt_zero _), ?_, rfl⟩
  · refine ⟨⟨by show M02.1 35 0 = _; rw [M02_row (by omega)]; rfl, by show M02.1 35 1 = _; rw [M02_row (by omega)]; rfl, by show M02.1 35 2 = _; rw [M02_row (by omega)]; rfl, by show M02.1 35 3 = _; rw [M02_row (by omega)]; rfl⟩, fun i k hi => absurd hi (Nat.not_lt_zero _), fun i k hi => absurd hi (Nat.not_lt_zero _), fun h hh => ⟨0, by decide, by show M02.1 55 h = _; rw [M02_row (by omega)]; rfl, fun j hj => absurd hj (Nat.not_lt_zero _)⟩, fun i hi => absurd hi (Nat.not_lt_zero _), fun s hs => ?_, fun s hs => ?_⟩
    · show M02.1 56 s = _
      rw [M02_row (by omega)]
      rfl
    · show M02.1 57 s = _
      rw [M02_row (by omega)]
      rfl
  · refine ⟨fun a ha => ⟨by show M02.1 37 _ = _; rw [z83, M02_row (by omega)]; rfl, by show M02.1 37 _ = _; rw [z83, M02_row (by omega)]; rfl⟩, fun a ha => ⟨by show M02.1 38 _ = _; rw [z83, M02_row (by omega)]; rfl, by show M02.1 38 _ = _; rw [z83, M02_row (by omega)]; rfl⟩, by show M02.1 36 _ = _; rw [z83, M02_row (by omega)]; rfl, by show M02.1 36 _ = _; rw [z83, M02_row (by omega)]; rfl⟩
  · exact ⟨0, by omega, by rw [M02_row (by omega)]; rfl, z83 _, fun i hi => absurd hi (Nat.not_lt_zero _)⟩
  · intro i hi
    have e : M02.1 (21 + 7 * i) 2 = 0 := by
      rcases (show i = 0 ∨ i = 1 by omega) with rfl | rfl
      · show M02.1 21 2 = 0
        rw [M02_row (by omega)]
        rfl
      · show M02.1 28 2 = 0
        rw [M02_row (by omega)]
        rfl
    exact ⟨by rw [e, z86], Or.inl (z86 i)⟩
  · intro s hs
    have e : s = 0 := by
      have : s < 1 := hs
      omega
    subst e
    exact ⟨0, by decide, by rw [M02_row (by omega)]; rfl, fun j hj => absurd hj (Nat.not_lt_zero _)⟩
theorem begin_ok {K : xMem → Prop} (hK : ∀ M, RelE M → K M) : w_X9_begins M01 (fun M1 => w_X9_adopts M1 K) := by
  unfold w_X9_begins
  intro M1 e1 M2 e2 M3 e3 M4 e4
  subst e1
  subst e2
  subst e3
  subst e4
  refine begins_loop (fun k _ => rfl) ?_
  unfold w_X9_adopts
  intro M5 e5 M6 e6 M7 e7 M8 e8
  have f5 : M5 = xset (xset (xset (xset (xset M01 81 12 4) 81 13 3) 81 22 0) 81 23 0) 81 9 4 := e5
  subst f5
  have f6 : M6 = xset (xset (xset (xset (xset (xset M01 81 12 4) 81 13 3) 81 22 0) 81 23 0) 81 9 4) 81 10 3 := e6
  subst f6
  have f7 : M7 = xset (xset (xset (xset (xset (xset (xset M01 81 12 4) 81 13 3) 81 22 0) 81 23 0) 81 9 4) 81 10 3) 81 20 0 := e7
  subst f7
  have f8 : M8 = xset (xset (xset (xset (xset (xset (xset (xset M01 81 12 4) 81 13 3) 81 22 0) 81 23 0) 81 9 4) 81 10 3) 81 20 0) 81 21 0 := e8
  subst f8
  exact adopts_zero (fun _ _ => rfl) (fun _ _ => rfl) (fun _ _ => rfl) (hK M02 ⟨35, 58, 4, 3, 3, 0, 0, M02_rel⟩)
