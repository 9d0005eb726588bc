/-! what is heard -/
theorem bit_any (x : Int32) {k : Nat} (hk : k < 31) : (x >>> (nI k &&& (31 : Int32))) &&& (1 : Int32) = if x.toBitVec.toNat.testBit k = true then 1 else 0 := by
  rw [and_31 hk, pk_and _ 1 (by decide)]
  have e : (x >>> nI k).toBitVec.toNat % 2 ^ 1 = if x.toBitVec.toNat.testBit k = true then 1 else 0 := by
    have h1 : (x >>> nI k).toBitVec = x.toBitVec.sshiftRight k := by
      rw [Int32.toBitVec_shiftRight, BitVec.sshiftRight_eq', smod_k hk]
    have h2 : (x.toBitVec.sshiftRight k).getLsbD 0 = x.toBitVec.getLsbD k := by
      rw [BitVec.getLsbD_sshiftRight]
      have a : ¬ 32 ≤ 0 := by omega
      have b : k + 0 < 32 := by omega
      simp [b]
      exact fun q => absurd q (by omega)
    rw [h1]
    have h3 : (x.toBitVec.sshiftRight k).toNat.testBit 0 = x.toBitVec.toNat.testBit k := h2
    rw [Nat.testBit_zero] at h3
    by_cases c : x.toBitVec.toNat.testBit k = true
    · rw [if_pos c]
      rw [c, decide_eq_true_eq] at h3
      exact h3
    · rw [if_neg c]
      have c' : x.toBitVec.toNat.testBit k = false := by
        cases hh : x.toBitVec.toNat.testBit k
        · rfl
        · exact absurd hh c
      rw [c', decide_eq_false_iff_not] at h3
      omega
  rw [e]
  split <;> rfl
def hSm (v : Nat → Int32) (t : Nat → Bool) : Nat → Int32
  | 0 => 0
  | n + 1 => if t n = true then hSm v t n + v n else hSm v t n
theorem hSm_cong {v v' : Nat → Int32} {t t' : Nat → Bool} : ∀ n, (∀ i, i < n → v i = v' i ∧ t i = t' i) → hSm v t n = hSm v' t' n
  | 0, _ => rfl
  | n + 1, h => by
    unfold hSm
    rw [hSm_cong n (fun i hi => h i (Nat.lt_succ_of_lt hi)), (h n (Nat.lt_succ_self n)).1, (h n (Nat.lt_succ_self n)).2]
theorem v_all {M : xMem} {w hg f nw : Nat} {post : xMem → Prop} (e9 : M.1 81 9 = nI w) (e10 : M.1 81 10 = nI hg) (e11 : M.1 81 11 = nI f) (e20 : M.1 81 20 = nI nw) (hS : rS (M.1 83)) (hW : rW (w * hg) nw (M.1 87)) (hw : 1 ≤ w) (hw2 : w ≤ 8) (hf : f < 10) (hn : w * hg ≤ 48) (hnw : nw ≤ 6) (hK : ∀ M', (∀ j, j ≠ 89 → M'.1 j = M.1 j) → M'.2 = M.2 → (∀ i, i < nw → rL w hg f (M.1 83) (M.1 87 (4 * i)).toNatClampNeg (M.1 87 (4 * i + 1)).toNatClampNeg (fun y => M'.1 89 (48 * i + y))) → post M') : w_X9_spreadsAll M post := by
  have f4 : ∀ j, (4 : Int32) * nI j = nI (4 * j) := fun j => by rw [show (4 : Int32) = nI 4 from rfl, pk_mul]
  unfold w_X9_spreadsAll
  refine cnt2 nw (by omega) (fun k M' => (∀ j, j ≠ 89 → M'.1 j = M.1 j) ∧ M'.2 = M.2 ∧ ∀ i, i < k → rL w hg f (M.1 83) (M.1 87 (4 * i)).toNatClampNeg (M.1 87 (4 * i + 1)).toNatClampNeg (fun y => M'.1 89 (48 * i + y))) ⟨fun _ _ => rfl, rfl, fun i hi => absurd hi (Nat.not_lt_zero _)⟩ (fun r k M' hk hI hr => ?_)
  obtain ⟨h1, h2, h3⟩ := hI
  unfold b_X9_spreadsAll_2
  have g81 : M'.1 81 = M.1 81 := h1 81 (by omega)
  have g83 : M'.1 83 = M.1 83 := h1 83 (by omega)
  have g87 : M'.1 87 = M.1 87 := h1 87 (by omega)
  rw [g81, e20]
  refine ⟨fun q => ?_, fun q => ?_⟩
  · have e : k = nw := Nat.le_antisymm hk ((nI_cond (by omega) (by omega)).mp q)
    subst e
    exact hK M' h1 h2 h3
  · have hl : k < nw := Nat.lt_of_not_le (fun q2 => q ((nI_cond (by omega) (by omega)).mpr q2))
    rw [f4, nI_1, nI_clamp (by omega), nI_clamp (by omega)]
    refine ⟨vp_in_nI (by omega) (by omega), vp_in_nI (by omega) (by omega), ?_⟩
    obtain ⟨⟨src, s1, s2⟩, ⟨z, z1, z2⟩, _⟩ := hW k hl
    have k87 : M'.1 (81 + 6) = M.1 87 := g87
    rw [k87, s2, z2]
    refine v_spreads (by rw [g81]; exact e9) (by rw [g81]; exact e10) (by rw [g81]; exact e11) (by rw [g83]; exact hS) hw hw2 hf hn (by omega) s1 (by omega) (fun M2 a1 a2 a3 a4 => ?_)
    rw [nI_1]
    refine hr hl M2 ⟨fun j hj => (a1 j hj).trans (h1 j hj), a2.trans h2, fun i hi => ?_⟩
    by_cases e : i = k
    · subst e
      rw [s2, z2, nI_clamp (by omega), nI_clamp (by omega), ← g83]
      exact a4
    · obtain ⟨T, t1, t2⟩ := h3 i (by omega)
      refine ⟨T, t1, fun y hy => ?_⟩
      show M2.1 89 (48 * i + y) = _
      rw [a3 (48 * i + y) (Or.inl (by omega))]
      exact t2 y hy
theorem v_heardBy {M : xMem} {nw y : Nat} {st p3 : Int32} {t : Nat → Bool} {post : Int32 → xMem → Prop} (e20 : M.1 81 20 = nI nw) (hnw : nw ≤ 6) (hy : y < 48) (ht : ∀ i, i < nw → (t i = true ↔ st.toBitVec.toNat.testBit i = true ∧ (p3 = 0 ∨ M.1 87 (4 * i) ≠ nI y))) (h : post (hSm (fun i => M.1 89 (48 * i + y)) t nw) M) : w_X9_heardBy M (nI y) st p3 post := by
  have f4 : ∀ j, (4 : Int32) * nI j = nI (4 * j) := fun j => by rw [show (4 : Int32) = nI 4 from rfl, pk_mul]
  unfold w_X9_heardBy
  refine xlp6_of (I := fun M' a b c x q => M' = M ∧ a = nI y ∧ b = st ∧ c = p3 ∧ ∃ k, k ≤ nw ∧ q = nI k ∧ x = hSm (fun i => M.1 89 (48 * i + y)) t k) (mu := fun _ _ _ _ _ q => nw - q.toNatClampNeg) ?_ ⟨rfl, rfl, rfl, rfl, 0, Nat.zero_le _, rfl, rfl⟩
  intro r M' a b c x q hI hr
  obtain ⟨rfl, rfl, rfl, rfl, k, hk, rfl, rfl⟩ := hI
  unfold b_X9_heardBy_6
  rw [e20]
  refine ⟨fun q => ?_, fun q => ?_⟩
  · have e : k = nw := Nat.le_antisymm hk ((nI_cond (by omega) (by omega)).mp q)
    subst e
    exact h
  · have hl : k < nw := Nat.lt_of_not_le (fun q2 => q ((nI_cond (by omega) (by omega)).mpr q2))
    have un : hSm (fun i => M'.1 89 (48 * i + y)) t (k + 1) = if t k = true then hSm (fun i => M'.1 89 (48 * i + y)) t k + M'.1 89 (48 * k + y) else hSm (fun i => M'.1 89 (48 * i + y)) t k := rfl
    have nx : ∀ x, x = hSm (fun i => M'.1 89 (48 * i + y)) t (k + 1) → r M' (nI y) b c x (nI (k + 1)) := fun x hx => hr _ _ _ _ _ _ ⟨rfl, rfl, rfl, rfl, k + 1, hl, rfl, hx⟩ (by
      show nw - (nI (k + 1)).toNatClampNeg < nw - (nI k).toNatClampNeg
      rw [nI_clamp (by omega), nI_clamp (by omega)]
      omega)
    rw [un] at nx
    have s0 : ¬ t k = true → b_X9_heardBy_46 post r M' (nI y) b c (hSm (fun i => M'.1 89 (48 * i + y)) t k) (nI k) := fun n => by
      unfold b_X9_heardBy_46 b_X9_heardBy_47 b_X9_heardBy_72
      rw [nI_1, Int32.add_zero]
      refine ⟨fun _ => nx _ ?_, fun a => absurd rfl a⟩
      rw [if_neg n]
    have s1 : t k = true → b_X9_heardBy_42 post r M' (nI y) b c (hSm (fun i => M'.1 89 (48 * i + y)) t k) (nI k) := fun n => by
      unfold b_X9_heardBy_42 b_X9_heardBy_47 b_X9_heardBy_72
      have ea : (48 : Int32) * nI k + nI y = nI (48 * k + y) := by rw [show (48 : Int32) = nI 48 from rfl, pk_mul, nI_add]
      rw [nI_1, ea, nI_clamp (by omega)]
      refine ⟨fun a => absurd a (by decide), fun _ => ⟨vp_in_nI (by omega) (by omega), nx _ ?_⟩⟩
      rw [if_pos n]
    rw [bit_any b (by omega)]
    have tk := ht k hl
    by_cases bt : b.toBitVec.toNat.testBit k = true
    · rw [if_pos bt]
      refine ⟨fun a => absurd rfl a, fun _ => ⟨fun c0 => s1 (tk.mpr ⟨bt, Or.inl c0⟩), fun c1 => ?_⟩⟩
      rw [f4, nI_clamp (by omega)]
      refine ⟨vp_in_nI (by omega) (by omega), fun a => s0 (fun z => ?_), fun a => s1 (tk.mpr ⟨bt, Or.inr a⟩)⟩
      rcases (tk.mp z).2 with a1 | a1
      · exact c1 a1
      · exact a1 a
    · rw [if_neg bt]
      exact ⟨fun _ => s0 (fun z => bt (tk.mp z).1), fun a => absurd a (by decide)⟩
theorem u_heardIn {M : xMem} {h nw y : Nat} {st : Int32} {post : Int32 → xMem → Prop} (hk : kd h = 2) (e2 : M.1 h 2 = nI nw) (hnw : nw ≤ 6) (hy : y < 48) (hp : post (hSm (fun i => M.1 (7 + i) y) (fun i => st.toBitVec.toNat.testBit i) nw) M) : w_X6_heardIn M h (nI y) st post := by
  unfold w_X6_heardIn
  refine xlp6_of (I := fun M' a b c x q => M' = M ∧ a = h ∧ b = nI y ∧ c = st ∧ ∃ k, k ≤ nw ∧ q = nI k ∧ x = hSm (fun i => M.1 (7 + i) y) (fun i => st.toBitVec.toNat.testBit i) k) (mu := fun _ _ _ _ _ q => nw - q.toNatClampNeg) ?_ ⟨rfl, rfl, rfl, rfl, 0, Nat.zero_le _, rfl, rfl⟩
  intro r M' a b c x q hI hr
  obtain ⟨rfl, rfl, rfl, rfl, k, hk', rfl, rfl⟩ := hI
  unfold b_X6_heardIn_6
  rw [e2]
  refine ⟨hk, fun q => ?_, fun q => ?_⟩
  · have e : k = nw := Nat.le_antisymm hk' ((nI_cond (by omega) (by omega)).mp q)
    subst e
    exact hp
  · have hl : k < nw := Nat.lt_of_not_le (fun q2 => q ((nI_cond (by omega) (by omega)).mpr q2))
    have un : hSm (fun i => M'.1 (7 + i) y) (fun i => c.toBitVec.toNat.testBit i) (k + 1) = if c.toBitVec.toNat.testBit k = true then hSm (fun i => M'.1 (7 + i) y) (fun i => c.toBitVec.toNat.testBit i) k + M'.1 (7 + k) y else hSm (fun i => M'.1 (7 + i) y) (fun i => c.toBitVec.toNat.testBit i) k := rfl
    have nx : ∀ x, x = hSm (fun i => M'.1 (7 + i) y) (fun i => c.toBitVec.toNat.testBit i) (k + 1) → b_X6_heardIn_38 post r M' a (nI y) c x (nI k) := fun x hx => by
      unfold b_X6_heardIn_38
      rw [nI_1]
      exact hr _ _ _ _ _ _ ⟨rfl, rfl, rfl, rfl, k + 1, hl, rfl, hx⟩ (by
        show nw - (nI (k + 1)).toNatClampNeg < nw - (nI k).toNatClampNeg
        rw [nI_clamp (by omega), nI_clamp (by omega)]
        omega)
    rw [un] at nx
    rw [bit_any c (by omega)]
    by_cases bt : c.toBitVec.toNat.testBit k = true
    · rw [if_pos bt] at nx ⊢
      refine ⟨fun a => absurd a (by decide), fun _ => ⟨vp_in_nI (by omega) (by omega), vp_in_nI (by omega) (by omega), fun v6 e6 => nx _ ?_⟩⟩
      rw [e6, nI_clamp (by omega), nI_clamp (by omega), show 5 + 1 + 1 + k = 7 + k by omega]
    · rw [if_neg bt] at nx ⊢
      exact ⟨fun _ => nx _ rfl, fun a => absurd rfl a⟩
theorem P_heard {M : xMem} (hR : RelE M) (a0 : Int32) (a1 : Int32) {K : Int32 → xMem → Prop} (hK : ∀ r M1, (∀ K2 : Int32 → xMem → Prop, (∀ M2, RelE M2 → K2 r M2) → w_X9_heard M1 a0 a1 K2) → K r M1) : w_X8_heard M a0 a1 K := by
  obtain ⟨h, d, w, hg, f, nw, nd, hR⟩ := hR
  obtain ⟨hh, e5, hk⟩ := Rel_h hR
  obtain ⟨r1, r2, r3, r4, r5, r6, r7, r8, r9, r10, r11, r12, r13⟩ := id hR
  have hb := (rB_bounds r3).2
  have hnw : nw ≤ 6 := r3.2.2.2.1
  have hthr : Rel (xset M 81 0 0) h d w hg f nw nd := Rel_thr hR
  have hthrE : RelE (xset M 81 0 0) := ⟨h, d, w, hg, f, nw, nd, hthr⟩
  have e9 : (xset M 81 0 0).1 81 9 = nI w := (m_col _ _ _ (by omega)).trans r4.1
  have e10 : (xset M 81 0 0).1 81 10 = nI hg := (m_col _ _ _ (by omega)).trans r4.2.1
  have e11 : (xset M 81 0 0).1 81 11 = nI f := (m_col _ _ _ (by omega)).trans r4.2.2.1
  have e20 : (xset M 81 0 0).1 81 20 = nI nw := (m_col _ _ _ (by omega)).trans r4.2.2.2.1
  have e83 : (xset M 81 0 0).1 83 = M.1 83 := m_row _ _ _ (by omega)
  have e87 : (xset M 81 0 0).1 87 = M.1 87 := m_row _ _ _ (by omega)
  unfold w_X8_heard
  rw [e5]
  refine u_isYard hk r7.1.1 r7.1.2.1 (by omega) (fun hin => z_nf ?_) (fun hin => z_nt (hK _ _ (fun K2 h2 => ?_)))
  · obtain ⟨y, hy, rfl⟩ := id hin
    rw [e5]
    refine u_heardIn hk r7.1.2.2.1 hnw (by omega) (hK _ _ (fun K2 h2 => ?_))
    unfold w_X9_heard
    intro M1 e1
    subst e1
    refine v_isYard e9 e10 (by omega) (fun _ => z_nf ?_) (fun q => absurd hin q)
    refine v_all e9 e10 e11 e20 (by rw [e83]; exact r6.1) (by rw [e87]; exact r6.2.1) r3.1.1 r3.1.2 (by have := r3.2.2.1; omega) hb hnw (fun M' g1 g2 g3 => ?_)
    refine v_heardBy (t := fun i => a1.toBitVec.toNat.testBit i) (by rw [g1 81 (by omega)]; exact e20) hnw (by omega) (fun i hi => ⟨fun z => ⟨z, Or.inl rfl⟩, fun z => z.1⟩) ?_
    have : hSm (fun i => M.1 (7 + i) y) (fun i => a1.toBitVec.toNat.testBit i) nw = hSm (fun i => M'.1 89 (48 * i + y)) (fun i => a1.toBitVec.toNat.testBit i) nw := hSm_cong nw (fun i hi => ⟨by
      have g := g3 i hi
      rw [e83, e87] at g
      exact rL_uniq (r11 i hi) g y hy, rfl⟩)
    rw [this] at h2
    exact h2 M' ⟨h, d, w, hg, f, nw, nd, Rel_loud hthr g1 g2⟩
  · unfold w_X9_heard
    intro M1 e1
    subst e1
    exact v_isYard e9 e10 (by omega) (fun q => absurd q hin) (fun _ => z_nt (h2 _ hthrE))
