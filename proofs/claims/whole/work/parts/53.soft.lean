theorem rB_bounds {w hg f nw nd : Nat} (h : rB w hg f nw nd) : 1 ≤ w * hg ∧ w * hg ≤ 48 := by
  obtain ⟨⟨a1, a2⟩, ⟨b1, b2⟩, -⟩ := h
  exact ⟨Nat.mul_pos a1 b1, Nat.mul_le_mul a2 b2⟩
/-! what leaves ground, workers, deeds, fade as they are -/
theorem rS_cong {s s' : Nat → Int32} (h : ∀ k, k < 194 → s' k = s k) (hS : rS s) : rS s' := by
  obtain ⟨h1, h2, h3, h4⟩ := hS
  refine ⟨fun b hb => ?_, fun b hb => ?_, ?_, ?_⟩
  · rw [h b (by omega)]
    exact h1 b hb
  · rw [h (96 + b) (by omega)]
    exact h2 b hb
  · rw [h 192 (by omega)]
    exact h3
  · rw [h 193 (by omega)]
    exact h4
theorem rG_cong {wl ft : Nat → Int32} {gr gd : Int32} {s s' : Nat → Int32} (h : ∀ k, k < 194 → s' k = s k) (hG : rG wl ft gr gd s) : rG wl ft gr gd s' := by
  obtain ⟨h1, h2, h3, h4⟩ := hG
  refine ⟨fun a ha => ?_, fun a ha => ?_, ?_, ?_⟩
  · rw [h a (by omega), h (48 + a) (by omega)]
    exact h1 a ha
  · rw [h (96 + a) (by omega), h (144 + a) (by omega)]
    exact h2 a ha
  · rw [h 192 (by omega)]
    exact h3
  · rw [h 193 (by omega)]
    exact h4
theorem sp_L_cong {n : Nat} {E : Nat → Nat → Prop} {p p' : Nat → Nat → Nat → Nat} {s z : Nat} {T : Nat → Nat} (h : ∀ a b v, a < n → b < n → p' a b v = p a b v) (hL : sp_L n E p s z T) : sp_L n E p' s z T := by
  have hc : ∀ T', sp_cl n E p s z T' ↔ sp_cl n E p' s z T' := fun T' => ⟨fun q => ⟨q.1, fun a b ha hb he => by rw [h a b _ ha hb]; exact q.2 a b ha hb he⟩, fun q => ⟨q.1, fun a b ha hb he => by rw [← h a b _ ha hb]; exact q.2 a b ha hb he⟩⟩
  exact ⟨(hc T).mp hL.1, fun T' hT' => hL.2 T' ((hc T').mpr hT')⟩
theorem passN_cong {w f : Nat} {s s' : Nat → Int32} (h : ∀ k, k < 194 → s' k = s k) {a b : Nat} (v : Nat) (ha : a < 48) (hb : b < 48) : passN w f s' a b v = passN w f s a b v := by
  have hm : (if a < b then a else b) < 48 := by split <;> assumption
  have h1 : (if a < b then a else b) + (if nbAl w a b = true then 48 else 0) < 96 := by
    have : (if nbAl w a b = true then 48 else 0) ≤ 48 := by split <;> omega
    omega
  have h2 : s' (if nbAl w a b = true then 193 else 192) = s (if nbAl w a b = true then 193 else 192) := h _ (by split <;> omega)
  unfold passN
  dsimp only
  rw [h2, h _ (by omega), h _ (by omega)]
theorem rL_cong {w hg f src z : Nat} {s s' : Nat → Int32} {row : Nat → Int32} (hb : w * hg ≤ 48) (h : ∀ k, k < 194 → s' k = s k) (hL : rL w hg f s src z row) : rL w hg f s' src z row := by
  obtain ⟨T, h1, h2⟩ := hL
  exact ⟨T, sp_L_cong (fun a b v ha hb' => passN_cong h v (by omega) (by omega)) h1, h2⟩
theorem rX_same {w hg nw nd : Nat} {c c' : Nat → Nat → Int32} {wk dd : Nat → Int32} (h : ∀ i, i < 23 → c' i = c i) (hw : nw ≤ 6) (hd : nd ≤ 8) (hX : rX w hg nw nd c wk dd) : rX w hg nw nd c' wk dd := rX_cong hw hd h hX
theorem Rel_soft {M N : xMem} {h d w hg f nw nd : Nat} (hR : Rel M h d w hg f nw nd) (hrow : ∀ i, (i = 0 ∨ i = 5 ∨ (7 ≤ i ∧ i ≤ 12) ∨ i = 15 ∨ i = 16 ∨ (35 ≤ i ∧ i < 81) ∨ i = 87 ∨ i = 88) → N.1 i = M.1 i) (h81 : ∀ k, (k = 9 ∨ k = 10 ∨ k = 11 ∨ k = 20 ∨ k = 21) → N.1 81 k = M.1 81 k) (h83 : ∀ k, k < 194 → N.1 83 k = M.1 83 k) (ht : rT (N.1 3) (N.1 2 1) (N.1 81 3) (N.1 82)) (hH : rH (w * hg) (N.1 17 2) (N.1 18) (N.1 19) (N.1 83))
    (hI : ∀ i, i < 2 → rI (w * hg) (N.1 (21 + 7 * i) 2) (N.1 86 i) (N.1 (23 + 7 * i)) (N.1 (24 + 7 * i)) (N.1 (22 + 7 * i) 2) (N.1 (22 + 7 * i) 3) (N.1 (25 + 7 * i) 2) (N.1 (26 + 7 * i)) (N.1 (27 + 7 * i)) (fun k => N.1 85 (207 * i + k))) (hT : N.2 0 = N.2 1) : Rel N h d w hg f nw nd := by
  obtain ⟨r1, r2, r3, r4, r5, r6, r7, r8, r9, r10, r11, r12, r13⟩ := hR
  have hh : (h = 35 ∨ h = 58) := by rcases r1 with q | q <;> omega
  have hnw : nw ≤ 6 := r3.2.2.2.1
  have hnd : nd ≤ 8 := r3.2.2.2.2
  have hb := (rB_bounds r3).2
  have eh : ∀ i, i < 23 → N.1 (h + i) = M.1 (h + i) := fun i hi => hrow (h + i) (by omega)
  have e87 := hrow 87 (by omega)
  have e88 := hrow 88 (by omega)
  have el : ∀ i, i < 6 → N.1 (7 + i) = M.1 (7 + i) := fun i hi => hrow (7 + i) (by omega)
  refine ⟨r1, ?_, r3, ?_, ht, ?_, ?_, ?_, hH, hI, fun i hi => ?_, ?_, hT⟩
  · rw [hrow 0 (by omega)]
    refine ⟨r2.1, r2.2.1, ?_⟩
    unfold rZ
    rw [hrow 16 (by omega), hrow 56 (by omega), hrow 57 (by omega), hrow 79 (by omega), hrow 80 (by omega)]
    exact r2.2.2
  · rw [h81 9 (by omega), h81 10 (by omega), h81 11 (by omega), h81 20 (by omega), h81 21 (by omega), hrow 5 (by omega)]
    exact r4
  · rw [e87, e88]
    exact ⟨rS_cong h83 r6.1, r6.2⟩
  · rw [e87, e88]
    exact rX_cong hnw hnd eh r7
  · rw [eh 2 (by omega), eh 3 (by omega), eh 1 (by omega)]
    exact rG_cong h83 r8
  · rw [e87, el i (by omega)]
    exact rL_cong hb h83 (r11 i hi)
  · intro s hs'
    rw [hrow 15 (by omega), e87, e88]
    obtain ⟨k, k1, k2, k3⟩ := r12 s hs'
    refine ⟨k, k1, k2, fun j hj => ?_⟩
    have e := heardS_cong (lf := fun i => M.1 (7 + i)) (lf' := fun i => N.1 (7 + i)) (wk := M.1 87) (y := (M.1 88 (5 * j)).toNatClampNeg) (o := true) (s := s) nw (fun i hi => by show N.1 (7 + i) _ = M.1 (7 + i) _; rw [el i (by omega)])
    show k.testBit j = true ↔ (M.1 88 (5 * j + 3)).toInt < (heardS (fun i => N.1 (7 + i)) (M.1 87) (M.1 88 (5 * j)).toNatClampNeg true s nw).toInt
    rw [e]
    exact k3 j hj
theorem Rel_thr {M : xMem} {h d w hg f nw nd : Nat} (hR : Rel M h d w hg f nw nd) : Rel (xset M 81 0 0) h d w hg f nw nd := Rel_same hR (same_set same_rf (by unfold scr; omega))
theorem Rel_h {M : xMem} {h d w hg f nw nd : Nat} (hR : Rel M h d w hg f nw nd) : (h = 35 ∨ h = 58) ∧ (M.1 0 5).toNatClampNeg = h ∧ kd h = 2 := by
  obtain ⟨r1, r2, -⟩ := hR
  rcases r1 with ⟨rfl, -⟩ | ⟨rfl, -⟩
  · exact ⟨Or.inl rfl, by rw [r2.1]; exact nI_clamp (by omega), by decide⟩
  · exact ⟨Or.inr rfl, by rw [r2.1]; exact nI_clamp (by omega), by decide⟩
theorem P_trace {M : xMem} (hR : RelE M) {K : Int64 → xMem → Prop} (hK : ∀ r M1, (∀ K2 : Int64 → xMem → Prop, (∀ M2, RelE M2 → K2 r M2) → w_X9_trace M1 K2) → K r M1) : w_X8_trace M K := by
  obtain ⟨h, d, w, hg, f, nw, nd, hR⟩ := hR
  unfold w_X8_trace
  refine hK _ _ (fun K2 h2 => ?_)
  unfold w_X9_trace
  intro M1 e1
  subst e1
  have e := hR.2.2.2.2.2.2.2.2.2.2.2.2
  show K2 (M.2 1) _
  rw [← e]
  exact h2 _ ⟨h, d, w, hg, f, nw, nd, Rel_thr hR⟩
theorem P_clear {M : xMem} (hR : RelE M) {K : Int32 → xMem → Prop} (hK : ∀ r M1, (∀ K2 : Int32 → xMem → Prop, (∀ M2, RelE M2 → K2 r M2) → w_X9_clear M1 K2) → K r M1) : w_X8_clear M K := by
  obtain ⟨h, d, w, hg, f, nw, nd, hR⟩ := hR
  unfold w_X8_clear w_X7_empty
  intro M1 e1
  subst e1
  refine hK _ _ (fun K2 h2 => ?_)
  unfold w_X9_clear
  intro M2 e2 M3 e3
  subst e2
  subst e3
  obtain ⟨r1, r2, r3, r4, r5, r6, r7, r8, r9, r10, r11, r12, r13⟩ := id hR
  obtain ⟨n, n1, n2, n3, n4⟩ := r5
  show K2 (M.1 81 3) _
  rw [n3, ← n2]
  refine h2 _ ⟨h, d, w, hg, f, nw, nd, Rel_soft hR (fun i hi => ?_) (fun k hk => ?_) (fun _ _ => rfl) ⟨0, by omega, rfl, rfl, fun i hi => absurd hi (Nat.not_lt_zero _)⟩ r9 (fun i hi => ?_) r13⟩
  · rw [m_row _ _ _ (by omega), m_row _ _ _ (by omega), m_row _ _ _ (by omega)]
  · rw [m_col _ _ _ (by omega), m_col _ _ _ (by omega), m_row _ _ _ (by omega)]
  · rcases (show i = 0 ∨ i = 1 by omega) with rfl | rfl
    · exact r10 0 (by omega)
    · exact r10 1 (by omega)
theorem P_forget {M : xMem} (hR : RelE M) {K : Int32 → xMem → Prop} (hK : ∀ r M1, (∀ K2 : Int32 → xMem → Prop, (∀ M2, RelE M2 → K2 r M2) → w_X9_forget M1 K2) → K r M1) : w_X8_forget M K := by
  obtain ⟨h, d, w, hg, f, nw, nd, hR⟩ := hR
  unfold w_X8_forget w_X1_empty
  refine ⟨rfl, ?_⟩
  intro M1 e1
  subst e1
  refine hK _ _ (fun K2 h2 => ?_)
  unfold w_X9_forget
  intro M2 e2 v ev M3 e3
  subst e2
  subst e3
  subst ev
  obtain ⟨r1, r2, r3, r4, r5, r6, r7, r8, r9, r10, r11, r12, r13⟩ := id hR
  obtain ⟨n, n1, n2, n3, n4⟩ := r9
  have e194 : (194 : Int32).toNatClampNeg = 194 := by decide
  show K2 (M.1 83 (194 : Int32).toNatClampNeg) _
  rw [e194, n3]
  have n2' : M.1 (0 + 17) 2 = nI n := n2
  rw [n2'] at h2
  refine h2 _ ⟨h, d, w, hg, f, nw, nd, Rel_soft hR (fun i hi => ?_) (fun k hk => ?_) (fun k hk => ?_) r5 ⟨0, by omega, rfl, ?_, fun i hi => absurd hi (Nat.not_lt_zero _)⟩ (fun i hi => ?_) r13⟩
  · rw [m_row _ _ _ (by omega), m_row _ _ _ (by omega), m_row _ _ _ (by omega)]
  · rw [m_row _ _ _ (by omega), m_col _ _ _ (by omega), m_row _ _ _ (by omega)]
  · show (xset _ 83 194 0).1 83 k = _
    rw [m_col _ _ _ (by omega), m_row _ _ _ (by omega), m_row _ _ _ (by omega)]
  · show (xset _ 83 194 0).1 83 194 = _
    rw [m_same]
    rfl
  · rcases (show i = 0 ∨ i = 1 by omega) with rfl | rfl
    · exact r10 0 (by omega)
    · exact r10 1 (by omega)
