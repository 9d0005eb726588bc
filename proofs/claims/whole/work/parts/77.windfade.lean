/-! wind, fade: all is heard anew -/
theorem rS_wind {s : Nat → Int32} {a b : Int32} (ha : -2 ≤ a.toInt ∧ a.toInt ≤ 2) (hb : -2 ≤ b.toInt ∧ b.toInt ≤ 2) (hS : rS s) : rS (upd (upd s 192 a) 193 b) := by
  obtain ⟨h1, h2, h3, h4⟩ := hS
  refine ⟨fun k hk => ?_, fun k hk => ?_, ?_, ?_⟩
  · rw [pk_un (by omega), pk_un (by omega)]
    exact h1 k hk
  · rw [pk_un (by omega), pk_un (by omega)]
    exact h2 k hk
  · rw [pk_un (by omega), pk_us]
    exact ha
  · rw [pk_us]
    exact hb
theorem rG_wind {wl ft : Nat → Int32} {gr gd a b : Int32} {s : Nat → Int32} (hG : rG wl ft gr gd s) : rG wl ft a b (upd (upd s 192 a) 193 b) := by
  obtain ⟨h1, h2, h3, h4⟩ := hG
  refine ⟨fun k hk => ?_, fun k hk => ?_, ?_, ?_⟩
  · rw [pk_un (j := k) (by omega), pk_un (j := k) (by omega), pk_un (j := 48 + k) (by omega), pk_un (j := 48 + k) (by omega)]
    exact h1 k hk
  · rw [pk_un (j := 96 + k) (by omega), pk_un (j := 96 + k) (by omega), pk_un (j := 144 + k) (by omega), pk_un (j := 144 + k) (by omega)]
    exact h2 k hk
  · rw [pk_un (by omega), pk_us]
  · rw [pk_us]
theorem in5 {x : Int32} : ((-2 : Int32) ≤ x ∧ x ≤ (2 : Int32)) ↔ -2 ≤ x.toInt ∧ x.toInt ≤ 2 := by
  have e0 : (-2 : Int32).toInt = -2 := by decide
  have e1 : (2 : Int32).toInt = 2 := by decide
  rw [q_le, q_le, e0, e1]
theorem P_wind {M : xMem} (hR : RelE M) (a0 : Int32) (a1 : Int32) {K : Int32 → xMem → Prop} (hK : ∀ r M1, (∀ K2 : Int32 → xMem → Prop, (∀ M2, RelE M2 → K2 r M2) → w_X9_wind M1 a0 a1 K2) → K r M1) : w_X8_wind M a0 a1 K := by
  obtain ⟨h, d, w, hg, f, nw, nd, hR⟩ := hR
  obtain ⟨hh, e5, hk⟩ := Rel_h hR
  obtain ⟨r1, r2, r3, r4, r5, r6, r7, r8, r9, r10, r11, r12, r13⟩ := id hR
  have hb := (rB_bounds r3).2
  have hthr : RelE (xset M 81 0 0) := ⟨h, d, w, hg, f, nw, nd, Rel_thr hR⟩
  have bad : ¬ (((-2 : Int32) ≤ a0 ∧ a0 ≤ (2 : Int32)) ∧ ((-2 : Int32) ≤ a1 ∧ a1 ≤ (2 : Int32))) → K (-1) M := fun q => hK _ _ (fun K2 h2 => by
    unfold w_X9_wind
    intro M1 e1
    subst e1
    exact u_in (fun x y => z_f (u_in (fun x2 y2 => absurd ⟨⟨x, y⟩, ⟨x2, y2⟩⟩ q) (fun _ => z_nt (h2 _ hthr)))) (fun _ => z_t (h2 _ hthr)))
  unfold w_X8_wind
  refine u_within (fun x y => z_f ?_) (fun q => z_t (bad (fun z => q z.1)))
  refine u_within (fun x2 y2 => z_nf ?_) (fun q => z_nt (bad (fun z => q z.2)))
  have i0 := in5.mp ⟨x, y⟩
  have i1 := in5.mp ⟨x2, y2⟩
  rw [e5]
  refine ⟨hk, fun M8 e8 => ?_⟩
  have f5 : M8.1 0 5 = M.1 0 5 := by rw [e8, m_row _ _ _ (by omega)]
  rw [f5, e5]
  refine ⟨hk, fun M10 e10 => ?_⟩
  have g : ∀ j, j ≠ h + 1 → M10.1 j = M.1 j := fun j hj => by rw [e10, m_row _ _ _ hj, e8, m_row _ _ _ hj]
  have gr : M10.1 (h + 1) 2 = a0 := by rw [e10, m_col _ _ _ (by omega), e8, m_same]
  have gd : M10.1 (h + 1) 3 = a1 := by rw [e10, m_same]
  have g2 : M10.2 = M.2 := by rw [e10, m_snd, e8, m_snd]
  refine u_listen (w := w) (hg := hg) (f := f) (nw := nw) (nd := nd) (s := upd (upd (M.1 83) 192 a0) 193 a1) (wk := M.1 87) (dd := M.1 88) hh (by rw [g 0 (by omega)]; exact r2.1) r3 (rS_wind i0 i1 r6.1) r6.2.1 r6.2.2 (by rw [g 5 (by omega)]; exact r4.2.2.2.2.2) (rX_cong2 r3.2.2.2.1 r3.2.2.2.2 (fun i hi a b c => g _ (by omega)) r7) ?_ (by rw [g 16 (by omega)]; exact r2.2.2.1) (fun M' b1 b2 b3 b4 b5 => ?_)
  · rw [g (h + 2) (by omega), g (h + 3) (by omega), gr, gd]
    exact rG_wind r8
  · refine hK _ _ (fun K2 h2 => ?_)
    unfold w_X9_wind
    intro M1 e1
    refine u_in (fun _ _ => z_f (u_in (fun _ _ => z_nf ?_) (fun q => absurd ⟨x2, y2⟩ q))) (fun q => absurd ⟨x, y⟩ q)
    intro M2 e2 M3 e3
    have e2' : M2 = xset M1 83 192 a0 := e2
    have e3' : M3 = xset M2 83 193 a1 := e3
    have t : ∀ j, j ≠ 81 → j ≠ 83 → M3.1 j = M'.1 j := fun j p q => by rw [e3', m_row _ _ _ q, e2', m_row _ _ _ q, e1, m_row _ _ _ p]
    have t83 : M3.1 83 = upd (upd (M.1 83) 192 a0) 193 a1 := by rw [e3', m_upd, e2', m_upd, e1, m_row _ _ _ (by omega), b1 83 (by omega) (by omega) (by omega), g 83 (by omega)]
    have t81 : ∀ k, k ≠ 0 → M3.1 81 k = M.1 81 k := fun k p => by rw [e3', m_row _ _ _ (by omega), e2', m_row _ _ _ (by omega), e1, m_col _ _ _ p, b1 81 (by omega) (by omega) (by omega), g 81 (by omega)]
    have T : ∀ j, (j < 7 ∨ 13 ≤ j) → j ≠ 15 → j ≠ 16 → j ≠ 81 → j ≠ 83 → j ≠ h + 1 → M3.1 j = M.1 j := fun j p1 p2 p3 p4 p5 p6 => by rw [t j p4 p5, b1 j p1 p2 p3, g j p6]
    have eh1 : M3.1 (h + 1) = M10.1 (h + 1) := by rw [t (h + 1) (by omega) (by omega), b1 (h + 1) (by omega) (by omega) (by omega)]
    have t7 : ∀ i, i < 6 → M3.1 (7 + i) = M'.1 (7 + i) := fun i hi => t _ (by omega) (by omega)
    have t2 : M3.2 = M.2 := by rw [e3', m_snd, e2', m_snd, e1, m_snd, b2, g2]
    refine h2 _ ⟨h, d, w, hg, f, nw, nd, Rel_mk hR r3.2.2.1 (by rw [T 5 (by omega) (by omega) (by omega) (by omega) (by omega) (by omega)]; exact r4.2.2.2.2.2) (by rw [t81 11 (by omega)]; exact r4.2.2.1) (fun k hk => t81 k (by omega)) (fun i hi => T i (by omega) (by omega) (by omega) (by omega) (by omega) (by omega)) (by rw [t 16 (by omega) (by omega)]; exact b3) ?_ ?_ ?_ (fun i hi => ?_) ?_ ?_⟩
    · rw [t83]
      exact rS_wind i0 i1 r6.1
    · rw [t83, eh1, gr, gd, T (h + 2) (by omega) (by omega) (by omega) (by omega) (by omega) (by omega), T (h + 3) (by omega) (by omega) (by omega) (by omega) (by omega) (by omega)]
      exact rG_wind r8
    · rw [T 17 (by omega) (by omega) (by omega) (by omega) (by omega) (by omega), T 18 (by omega) (by omega) (by omega) (by omega) (by omega) (by omega), T 19 (by omega) (by omega) (by omega) (by omega) (by omega) (by omega)]
      refine rH_cong (fun _ _ => rfl) (fun _ _ => rfl) (fun k k1 k2 => ?_) r9
      rw [t83, pk_un (by omega), pk_un (by omega)]
    · rw [t83, T 87 (by omega) (by omega) (by omega) (by omega) (by omega) (by omega), t7 i (by have := r3.2.2.2.1; omega)]
      exact b4 i hi
    · rw [T 87 (by omega) (by omega) (by omega) (by omega) (by omega) (by omega), T 88 (by omega) (by omega) (by omega) (by omega) (by omega) (by omega), t 15 (by omega) (by omega)]
      exact rBr_cong r3.2.2.2.1 t7 b5
    · rw [t2]
      exact r13
theorem P_fade {M : xMem} (hR : RelE M) (a0 : Int32) {K : Int32 → xMem → Prop} (hK : ∀ r M1, (∀ K2 : Int32 → xMem → Prop, (∀ M2, RelE M2 → K2 r M2) → w_X9_fade M1 a0 K2) → K r M1) : w_X8_fade M a0 K := by
  obtain ⟨h, d, w, hg, f, nw, nd, hR⟩ := hR
  obtain ⟨hh, e5, hk⟩ := Rel_h hR
  obtain ⟨r1, r2, r3, r4, r5, r6, r7, r8, r9, r10, r11, r12, r13⟩ := id hR
  have hb := (rB_bounds r3).2
  have hthr : RelE (xset M 81 0 0) := ⟨h, d, w, hg, f, nw, nd, Rel_thr hR⟩
  unfold w_X8_fade
  refine u_within (fun x y => z_nf ?_) (fun q => z_nt (hK _ _ (fun K2 h2 => ?_)))
  · have e1 : (1 : Int32).toInt = 1 := by decide
    have e9 : (9 : Int32).toInt = 9 := by decide
    obtain ⟨f', f1, f2⟩ : ∃ f' : Nat, (1 ≤ f' ∧ f' ≤ 9) ∧ a0 = nI f' := by
      have x' := x
      have y' := y
      rw [q_le, e1] at x'
      rw [q_le, e9] at y'
      refine ⟨a0.toInt.toNat, by omega, ?_⟩
      apply (q_eq _ _).mpr
      rw [q_toI _ (by omega)]
      omega
    have hB' : rB w hg f' nw nd := ⟨r3.1, r3.2.1, f1, r3.2.2.2⟩
    intro M4 e4
    have e4' : M4 = xset M 5 2 a0 := e4
    have g : ∀ j, j ≠ 5 → M4.1 j = M.1 j := fun j hj => by rw [e4', m_row _ _ _ hj]
    refine u_listen (w := w) (hg := hg) (f := f') (nw := nw) (nd := nd) (s := M.1 83) (wk := M.1 87) (dd := M.1 88) hh (by rw [g 0 (by omega)]; exact r2.1) hB' r6.1 r6.2.1 r6.2.2 (by rw [e4', m_same]; exact f2) (rX_cong2 r3.2.2.2.1 r3.2.2.2.2 (fun i hi a b c => g _ (by omega)) r7) (by rw [g (h + 2) (by omega), g (h + 3) (by omega), g (h + 1) (by omega)]; exact r8) (by rw [g 16 (by omega)]; exact r2.2.2.1) (fun M' b1 b2 b3 b4 b5 => ?_)
    refine hK _ _ (fun K2 h2 => ?_)
    unfold w_X9_fade
    intro M1 e1
    refine u_in (fun _ _ => z_nf ?_) (fun q => absurd ⟨x, y⟩ q)
    intro M3 e3
    have T : ∀ j, (j < 7 ∨ 13 ≤ j) → j ≠ 15 → j ≠ 16 → j ≠ 81 → j ≠ 5 → M3.1 j = M.1 j := fun j p1 p2 p3 p4 p5 => by rw [e3, m_row _ _ _ p4, e1, m_row _ _ _ p4, b1 j p1 p2 p3, g j p5]
    have t : ∀ j, j ≠ 81 → M3.1 j = M'.1 j := fun j p => by rw [e3, m_row _ _ _ p, e1, m_row _ _ _ p]
    have t81 : ∀ k, k ≠ 0 → k ≠ 11 → M3.1 81 k = M.1 81 k := fun k p q => by rw [e3, m_col _ _ _ q, e1, m_col _ _ _ p, b1 81 (by omega) (by omega) (by omega), g 81 (by omega)]
    have was : M1.1 81 11 = M.1 (0 + 5) 2 := by
      rw [e1, m_col _ _ _ (by omega), b1 81 (by omega) (by omega) (by omega), g 81 (by omega), r4.2.2.1]
      exact r4.2.2.2.2.2.symm
    have t7 : ∀ i, i < 6 → M3.1 (7 + i) = M'.1 (7 + i) := fun i hi => t _ (by omega)
    rw [was]
    refine h2 _ ⟨h, d, w, hg, f', nw, nd, Rel_mk hR f1 ?_ (by rw [e3, m_same]; exact f2) (fun k hk => t81 k (by omega) (by omega)) (fun i hi => T i (by omega) (by omega) (by omega) (by omega) (by omega)) (by rw [t 16 (by omega)]; exact b3) ?_ ?_ ?_ (fun i hi => ?_) ?_ ?_⟩
    · rw [t 5 (by omega), b1 5 (by omega) (by omega) (by omega), e4', m_same]
      exact f2
    · rw [T 83 (by omega) (by omega) (by omega) (by omega) (by omega)]
      exact r6.1
    · rw [T 83 (by omega) (by omega) (by omega) (by omega) (by omega), T (h + 1) (by omega) (by omega) (by omega) (by omega) (by omega), T (h + 2) (by omega) (by omega) (by omega) (by omega) (by omega), T (h + 3) (by omega) (by omega) (by omega) (by omega) (by omega)]
      exact r8
    · rw [T 17 (by omega) (by omega) (by omega) (by omega) (by omega), T 18 (by omega) (by omega) (by omega) (by omega) (by omega), T 19 (by omega) (by omega) (by omega) (by omega) (by omega), T 83 (by omega) (by omega) (by omega) (by omega) (by omega)]
      exact r9
    · rw [T 83 (by omega) (by omega) (by omega) (by omega) (by omega), T 87 (by omega) (by omega) (by omega) (by omega) (by omega), t7 i (by have := r3.2.2.2.1; omega)]
      exact b4 i hi
    · rw [T 87 (by omega) (by omega) (by omega) (by omega) (by omega), T 88 (by omega) (by omega) (by omega) (by omega) (by omega), t 15 (by omega)]
      exact rBr_cong r3.2.2.2.1 t7 b5
    · rw [e3, m_snd, e1, m_snd, b2, e4', m_snd]
      exact r13
  · unfold w_X9_fade
    intro M1 e1
    subst e1
    exact u_in (fun x y => absurd ⟨x, y⟩ q) (fun _ => z_nt (h2 _ hthr))
