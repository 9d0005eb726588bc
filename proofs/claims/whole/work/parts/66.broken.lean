/-! what is broken -/
theorem bitsOf_and {x y : Int32} {n : Nat} {P Q : Nat → Prop} (hn : n ≤ 31) (h : bitsOf x n P) (h' : bitsOf y n Q) : bitsOf (x &&& y) n (fun j => P j ∧ Q j) := by
  obtain ⟨k, h1, rfl, h3⟩ := h
  obtain ⟨l, l1, rfl, l3⟩ := h'
  have hk : k < 2 ^ 31 := Nat.lt_of_lt_of_le h1 (Nat.pow_le_pow_right (by decide) hn)
  have hl : l < 2 ^ 31 := Nat.lt_of_lt_of_le l1 (Nat.pow_le_pow_right (by decide) hn)
  refine ⟨k &&& l, Nat.and_lt_two_pow k l1, nI_and hk hl, fun j hj => ?_⟩
  rw [Nat.testBit_and, Bool.and_eq_true]
  exact and_congr (h3 j hj) (l3 j hj)
theorem bitsOf_cong {x : Int32} {n : Nat} {P Q : Nat → Prop} (h : bitsOf x n P) (e : ∀ j, j < n → (P j ↔ Q j)) : bitsOf x n Q := by
  obtain ⟨k, h1, h2, h3⟩ := h
  exact ⟨k, h1, h2, fun j hj => (h3 j hj).trans (e j hj)⟩
theorem heardS_hSm {lf : Nat → Nat → Int32} {wk : Nat → Int32} {y s : Nat} : ∀ n, heardS lf wk y true s n = hSm (fun i => lf i y) (fun i => s.testBit i && decide (wk (4 * i) ≠ nI y)) n
  | 0 => rfl
  | n + 1 => by
    unfold heardS hSm
    rw [heardS_hSm n]
    by_cases a : s.testBit n = true
    · by_cases b : wk (4 * n) = nI y
      · rw [if_neg (fun z => z.2 ⟨rfl, b⟩), if_neg (fun z => by rw [Bool.and_eq_true, decide_eq_true_eq] at z; exact z.2 b)]
      · rw [if_pos ⟨a, fun z => b z.2⟩, if_pos (by rw [Bool.and_eq_true, decide_eq_true_eq]; exact ⟨a, b⟩)]
    · rw [if_neg (fun z => a z.1), if_neg (fun z => by rw [Bool.and_eq_true] at z; exact a z.1)]
def tO (wk : Nat → Int32) (st : Int32) (y : Nat) (i : Nat) : Bool := st.toBitVec.toNat.testBit i && decide (wk (4 * i) ≠ nI y)
/-- the deeds that a set breaks, by the reference's table of loudness -/
def brR (M : xMem) (nw hr : Nat) (st : Int32) (d : Nat) : Prop := dHold (M.1 88) d hr ∧ (M.1 88 (5 * d + 3)).toInt < (hSm (fun i => M.1 89 (48 * i + (M.1 88 (5 * d)).toNatClampNeg)) (tO (M.1 87) st (M.1 88 (5 * d)).toNatClampNeg) nw).toInt
theorem v_brokenBy {M : xMem} {n nw nd hr : Nat} {st : Int32} {post : Int32 → xMem → Prop} (e20 : M.1 81 20 = nI nw) (e21 : M.1 81 21 = nI nd) (hD : rD n nd (M.1 88)) (hn : n ≤ 48) (hnw : nw ≤ 6) (hnd : nd ≤ 8) (hh : hr < 12) (hK : ∀ x, bitsOf x nd (brR M nw hr st) → post x M) : w_X9_brokenBy M (nI hr) st post := by
  have five : ∀ j, (5 : Int32) * nI j = nI (5 * j) := fun j => by rw [show (5 : Int32) = nI 5 from rfl, pk_mul]
  have five3 : ∀ j, nI (5 * j) + (3 : Int32) = nI (5 * j + 3) := fun j => nI_add (5 * j) 3
  unfold w_X9_brokenBy
  refine cnt5 nd (by omega) (fun k x => bitsOf x k (brR M nw hr st)) bitsOf_0 (fun r k x hk hx hr' => ?_)
  unfold b_X9_brokenBy_5
  rw [e21]
  refine ⟨fun q => ?_, fun q => ?_⟩
  · have e : k = nd := Nat.le_antisymm hk ((nI_cond (by omega) (by omega)).mp q)
    subst e
    exact hK x hx
  · have hl : k < nd := Nat.lt_of_not_le (fun q2 => q ((nI_cond (by omega) (by omega)).mpr q2))
    have s0 : ¬ brR M nw hr st k → b_X9_brokenBy_61 post r M (nI hr) st (nI k) x := fun a => by
      unfold b_X9_brokenBy_61 b_X9_brokenBy_62
      rw [nI_1, Int32.or_zero]
      exact hr' hl x (bitsOf_skip hx a)
    obtain ⟨⟨y, y1, y2⟩, _⟩ := hD k hl
    refine v_holds (by omega) hh (fun hH => z_f ?_) (fun hH => z_t (s0 (fun a => hH a.1)))
    rw [five, five3, nI_clamp (by omega), nI_clamp (by omega)]
    refine ⟨vp_in_nI (by omega) (by omega), ?_⟩
    have y2' : M.1 (81 + 7) (5 * k) = nI y := y2
    rw [y2']
    refine v_heardBy (t := tO (M.1 87) st y) e20 hnw (by omega) (fun i hi => ?_) ?_
    · unfold tO
      rw [Bool.and_eq_true, decide_eq_true_eq]
      exact and_congr Iff.rfl ⟨fun a => Or.inr a, fun a => a.elim (fun z => absurd z (by decide)) id⟩
    · refine ⟨vp_in_nI (by omega) (by omega), fun z => s0 (fun a => ?_), fun z => ?_⟩
      · have a2 := a.2
        rw [y2, nI_clamp (by omega)] at a2
        rw [q_le] at z
        have z' : (hSm (fun i => M.1 89 (48 * i + y)) (tO (M.1 87) st y) nw).toInt ≤ (M.1 88 (5 * k + 3)).toInt := z
        omega
      · unfold b_X9_brokenBy_62
        rw [nI_1]
        refine hr' hl _ (bitsOf_set (by omega) hx ⟨hH, ?_⟩)
        rw [y2, nI_clamp (by omega)]
        rw [q_le] at z
        have z' : ¬ (hSm (fun i => M.1 89 (48 * i + y)) (tO (M.1 87) st y) nw).toInt ≤ (M.1 88 (5 * k + 3)).toInt := z
        omega
/-- the class's breaks and holdings are what the reference finds, once it has spread -/
theorem br_same {M M' : xMem} {h d w hg f nw nd : Nat} {st : Int32} {hr s : Nat} (hR : Rel M h d w hg f nw nd) (g88 : M'.1 88 = M.1 88) (g87 : M'.1 87 = M.1 87) (g : ∀ i, i < nw → rL w hg f (M.1 83) (M.1 87 (4 * i)).toNatClampNeg (M.1 87 (4 * i + 1)).toNatClampNeg (fun y => M'.1 89 (48 * i + y))) (hh : hr < 12) (hs : s < 2 ^ nw) (hb : ∀ i, i < nw → s.testBit i = st.toBitVec.toNat.testBit i) {x : Int32} (hx : bitsOf x nd (brR M' nw hr st)) : M.1 15 s &&& M.1 (h + 20) hr = x := by
  obtain ⟨r1, r2, r3, r4, r5, r6, r7, r8, r9, r10, r11, r12, r13⟩ := id hR
  have hnd : nd ≤ 8 := r3.2.2.2.2
  refine bitsOf_uniq (bitsOf_and (by omega) (r12 s hs) (r7.2.2.2.1 hr hh)) (bitsOf_cong hx (fun j hj => ?_))
  unfold brR
  rw [g88, g87]
  obtain ⟨⟨y, y1, y2⟩, _⟩ := r6.2.2 j hj
  rw [y2, nI_clamp (by have := (rB_bounds r3).2; omega), heardS_hSm]
  have e : hSm (fun i => M.1 (7 + i) y) (fun i => s.testBit i && decide (M.1 87 (4 * i) ≠ nI y)) nw = hSm (fun i => M'.1 89 (48 * i + y)) (tO (M.1 87) st y) nw := hSm_cong nw (fun i hi => ⟨rL_uniq (r11 i hi) (g i hi) y y1, by
    unfold tO
    rw [hb i hi]⟩)
  rw [← e]
  exact And.comm
theorem all_mask {nw : Nat} (h : nw ≤ 6) : (1 : Int32) <<< (nI nw &&& (31 : Int32)) - (1 : Int32) = nI (2 ^ nw - 1) := by
  rw [bit_one (by omega), show (1 : Int32) = nI 1 from rfl, pk_sub (Nat.two_pow_pos nw)]
theorem u_allW {M : xMem} {h nw : Nat} {post : Int32 → xMem → Prop} (hk : kd h = 2) (e2 : M.1 h 2 = nI nw) (hnw : nw ≤ 6) (hp : post (nI (2 ^ nw - 1)) M) : w_X2_allWorkers M h post := by
  unfold w_X2_allWorkers
  rw [e2, all_mask hnw]
  exact ⟨hk, hp⟩
theorem mask_bits {nw : Nat} (hnw : nw ≤ 6) (x : Int32) : x &&& nI (2 ^ nw - 1) = nI (x.toBitVec.toNat % 2 ^ nw) := by
  refine pk_and x nw ?_
  show (BitVec.ofNat 32 (2 ^ nw - 1)).toNat = _
  have : 2 ^ nw ≤ 2 ^ 6 := Nat.pow_le_pow_right (by decide) hnw
  rw [BitVec.toNat_ofNat, Nat.mod_eq_of_lt (by omega)]
theorem P_broken {M : xMem} (hR : RelE M) (a0 : Int32) (a1 : Int32) {K : Int32 → xMem → Prop} (hK : ∀ r M1, (∀ K2 : Int32 → xMem → Prop, (∀ M2, RelE M2 → K2 r M2) → w_X9_broken M1 a0 a1 K2) → K r M1) : w_X8_broken M a0 a1 K := by
  obtain ⟨h, d, w, hg, f, nw, nd, hR⟩ := hR
  obtain ⟨hh, e5, hk⟩ := Rel_h hR
  obtain ⟨r1, r2, r3, r4, r5, r6, r7, r8, r9, r10, r11, r12, r13⟩ := id hR
  have hb := (rB_bounds r3).2
  have hnw : nw ≤ 6 := r3.2.2.2.1
  have hnd : nd ≤ 8 := r3.2.2.2.2
  have hthr : Rel (xset M 81 0 0) h d w hg f nw nd := Rel_thr hR
  have hthrE : RelE (xset M 81 0 0) := ⟨h, d, w, hg, f, nw, nd, hthr⟩
  have e9 : (xset M 81 0 0).1 81 9 = nI w := (m_col _ _ _ (by omega)).trans r4.1
  have e10 : (xset M 81 0 0).1 81 10 = nI hg := (m_col _ _ _ (by omega)).trans r4.2.1
  have e11 : (xset M 81 0 0).1 81 11 = nI f := (m_col _ _ _ (by omega)).trans r4.2.2.1
  have e20 : (xset M 81 0 0).1 81 20 = nI nw := (m_col _ _ _ (by omega)).trans r4.2.2.2.1
  have e21 : (xset M 81 0 0).1 81 21 = nI nd := (m_col _ _ _ (by omega)).trans r4.2.2.2.2.1
  have e83 : (xset M 81 0 0).1 83 = M.1 83 := m_row _ _ _ (by omega)
  have e87 : (xset M 81 0 0).1 87 = M.1 87 := m_row _ _ _ (by omega)
  have e88 : (xset M 81 0 0).1 88 = M.1 88 := m_row _ _ _ (by omega)
  unfold w_X8_broken
  refine u_isHour (fun hin => z_nf ?_) (fun hin => z_nt (hK _ _ (fun K2 h2 => ?_)))
  · obtain ⟨hr, hr1, rfl⟩ := id hin
    rw [e5]
    refine u_allW hk r7.1.2.2.1 hnw ?_
    rw [mask_bits hnw, e5]
    have hs : a1.toBitVec.toNat % 2 ^ nw < 2 ^ nw := Nat.mod_lt _ (Nat.two_pow_pos nw)
    have h64 : 2 ^ nw ≤ 2 ^ 6 := Nat.pow_le_pow_right (by decide) hnw
    refine ⟨vp_in_nI (by omega) (by omega), hk, vp_in_nI (by omega) (by omega), ?_⟩
    rw [nI_clamp (by omega), nI_clamp (by omega)]
    refine hK _ _ (fun K2 h2 => ?_)
    unfold w_X9_broken
    intro M1 e1
    subst e1
    refine v_isHour (fun _ => z_nf ?_) (fun q => absurd hin q)
    refine v_all e9 e10 e11 e20 (by rw [e83]; exact r6.1) (by rw [e87]; exact r6.2.1) r3.1.1 r3.1.2 (by have := r3.2.2.1; omega) hb hnw (fun M' g1 g2 g3 => ?_)
    have k88 : M'.1 88 = M.1 88 := (g1 88 (by omega)).trans e88
    have k87 : M'.1 87 = M.1 87 := (g1 87 (by omega)).trans e87
    refine v_brokenBy (n := w * hg) (by rw [g1 81 (by omega)]; exact e20) (by rw [g1 81 (by omega)]; exact e21) (by rw [k88]; exact r6.2.2) hb hnw hnd hr1 (fun x hx => ?_)
    have ex : M.1 15 (a1.toBitVec.toNat % 2 ^ nw) &&& M.1 (h + 20) hr = x := br_same hR k88 k87 (fun i hi => by
      have g := g3 i hi
      rw [e83, e87] at g
      exact g) hr1 hs (fun i hi => by rw [Nat.testBit_mod_two_pow, decide_eq_true hi, Bool.true_and]) hx
    have h2' : ∀ M2, RelE M2 → K2 x M2 := by
      rw [← ex]
      exact h2
    exact h2' M' ⟨h, d, w, hg, f, nw, nd, Rel_loud hthr g1 g2⟩
  · unfold w_X9_broken
    intro M1 e1
    subst e1
    exact v_isHour (fun q => absurd q hin) (fun _ => z_nt (h2 _ hthrE))
