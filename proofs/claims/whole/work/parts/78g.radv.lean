/-! the reference goes on by a token -/
def rTkn (M M' : xMem) (x : Nat → Int32) (n p : Nat) : Prop := (∀ j, j ≠ 81 → M'.1 j = M.1 j) ∧ M'.2 = M.2 ∧ (∀ k, k ≠ 4 → k ≠ 5 → k ≠ 6 → k ≠ 7 → M'.1 81 k = M.1 81 k) ∧ M'.1 81 4 = nI (tkE x n p) ∧ M'.1 81 6 = nI (tkS x n p) ∧ M'.1 81 5 = nI (rTk (tkC x n p)) ∧ (tkC x n p = 2 → M'.1 81 7 = nI (tkV x n p)) ∧ (4 ≤ tkC x n p → M'.1 81 7 = rVl (tkC x n p))
theorem lt_dg {x : Nat → Int32} {n p : Nat} (hp : p ≤ n) : ∀ a, a ∈ ltO x n p → dg a := by
  intro a ha
  obtain ⟨i, hi, e⟩ := List.getElem_of_mem ha
  obtain ⟨-, w2⟩ := ltO_spec (x := x) (n := n) (n - p) p rfl hp
  obtain ⟨u1, u2, u3⟩ := w2 i hi
  rw [List.getD_eq_getElem?_getD, List.getElem?_eq_getElem hi] at u1
  have u1' : a = x (p + i) := e.symm.trans u1
  obtain ⟨k, k1, k2, k3⟩ := isL_iff.mp u3
  exact ⟨k, by omega, by omega, u1'.trans k3⟩
theorem v_wordL {M : xMem} {n s : Nat} {x : Nat → Int32} {post : xMem → Prop} (hT : rTx M n x) (hs : s ≤ n) (e4 : M.1 81 4 = nI s) (e6 : M.1 81 6 = nI s) (hK : ∀ M', (∀ j, j ≠ 81 → M'.1 j = M.1 j) → M'.2 = M.2 → (∀ k, k ≠ 4 → k ≠ 5 → k ≠ 7 → M'.1 81 k = M.1 81 k) → M'.1 81 4 = nI (endO isL x n s) → M'.1 81 5 = nI (rTk (wcode (ltO x n s))) → M'.1 81 7 = rVl (wcode (ltO x n s)) → post M') : xlp2 (b_X9_advances_68 post) M 0 := by
  have t2 := hT.2.1
  have he := endO_le (f := isL) (x := x) hs
  refine xlp2_of (I := fun M' a => (∀ j, j ≠ 81 → M'.1 j = M.1 j) ∧ M'.2 = M.2 ∧ (∀ k, k ≠ 4 → M'.1 81 k = M.1 81 k) ∧ ∃ q v, s ≤ q ∧ q ≤ n ∧ M'.1 81 4 = nI q ∧ a = lN v ∧ endO isL x n q = endO isL x n s ∧ wf (ltO x n q) (q - s) v = wf (ltO x n s) 0 0) (mu := fun M' _ => n - (M'.1 81 4).toNatClampNeg) ?_ ⟨fun _ _ => rfl, rfl, fun _ _ => rfl, s, 0, Nat.le_refl _, hs, e4, rfl, rfl, by rw [Nat.sub_self]⟩
  intro r M' a hI hr
  obtain ⟨g1, g2, g3, q, v, hsq, hq, g4, rfl, g5, g6⟩ := hI
  have hT' : rTx M' n x := rTx_of hT (g3 3 (by omega)) (g1 82 (by omega))
  have p6 : M'.1 81 6 = nI s := (g3 6 (by omega)).trans e6
  have out : ¬ (q < n ∧ isL (x q) = true) → w_X9_wordOf M' (lN v) (fun z6 M7 => ∀ M8 : xMem, M8 = xset M7 81 7 z6 → (((¬ (M8.1 81 7) = (-9 : Int32)) → (b_X9_advances_153 post M8 (1 : Int32))) ∧ (((M8.1 81 7) = (-9 : Int32)) → (b_X9_advances_153 post M8 (4 : Int32))))) := fun c => by
    rw [endO_stop c] at g5
    rw [ltO_stop c] at g6
    have ev : v = wf (ltO x n s) 0 0 := g6
    rw [ev]
    refine v_wordOf (lt_dg hs) (fun M8 e8 => ?_)
    have e87 : M8.1 81 7 = rVl (wcode (ltO x n s)) := by rw [e8, m_same]
    have fin : ∀ t, t = nI (rTk (wcode (ltO x n s))) → b_X9_advances_153 post M8 t := fun t et => by
      unfold b_X9_advances_153
      intro M9 e9
      refine hK M9 (fun j hj => by rw [e9, m_row _ _ _ hj, e8, m_row _ _ _ hj]; exact g1 j hj) (by rw [e9, m_snd, e8, m_snd]; exact g2) (fun k k4 k5 k7 => by rw [e9, m_col _ _ _ k5, e8, m_col _ _ _ k7]; exact g3 k k4) (by rw [e9, m_col _ _ _ (by omega), e8, m_col _ _ _ (by omega), g4, g5]) (by rw [e9, m_same, et]) (by rw [e9, m_col _ _ _ (by omega), e87])
    have hc := wcode_le (ltO x n s)
    have hv : ∀ c, c < 14 → 4 ≤ c → rVl c ≠ -9 ∧ rTk c = 1 := by decide
    rw [e87]
    refine ⟨fun ne => fin 1 ?_, fun e => fin 4 ?_⟩
    · rcases hc with hc | hc
      · rw [(hv _ (by omega) hc.1).2]
        rfl
      · rw [hc] at ne
        exact absurd rfl ne
    · rcases hc with hc | hc
      · exact absurd e (hv _ (by omega) hc.1).1
      · rw [hc]
        rfl
  unfold b_X9_advances_68
  rw [g4]
  refine v_byte hT' hq (fun hl => v_inL (fun il => z_f ?_) (fun nl => z_t (out (fun c => nl c.2)))) (fun nl => v_inL (fun il => absurd il (by decide)) (fun _ => z_t (out (fun c => nl c.1))))
  obtain ⟨b, b1, b2, b3⟩ := isL_iff.mp il
  have nx : ∀ v', v' = (if q - s < 7 then 256 * v + b else v) → b_X9_advances_116 post r M' (lN v') := fun v' ev => by
    unfold b_X9_advances_116
    intro M5 e5
    have e54 : M5.1 81 4 = nI (q + 1) := by rw [e5, m_same, g4, nI_1]
    refine hr M5 _ ⟨fun j hj => by rw [e5, m_row _ _ _ hj]; exact g1 j hj, by rw [e5, m_snd]; exact g2, fun k hk => by rw [e5, m_col _ _ _ hk]; exact g3 k hk, q + 1, v', by omega, hl, e54, rfl, by rw [endO_go hl il]; exact g5, ?_⟩ ?_
    · rw [← g6, ltO_go hl il, ev]
      show _ = wf (ltO x n (q + 1)) (q - s + 1) (if q - s < 7 then 256 * v + (x q).toNatClampNeg else v)
      rw [b3, nI_clamp (by omega), show q + 1 - s = q - s + 1 by omega]
    · show n - (M5.1 81 4).toNatClampNeg < n - (M'.1 81 4).toNatClampNeg
      rw [e54, g4, nI_clamp (by omega), nI_clamp (by omega)]
      omega
  rw [g4, p6, pk_sub hsq]
  have i7 : ((7 : Int32) ≤ nI (q - s)) ↔ 7 ≤ q - s := nI_leI (a := 7) (by omega) (by omega)
  refine ⟨fun y => nx v (by rw [if_neg (by have := i7.mp y; omega)]), fun y => ?_⟩
  have lt7 : q - s < 7 := Nat.lt_of_not_le (fun w => y (i7.mpr w))
  refine v_byte hT' hq (fun _ => ?_) (fun nl => absurd hl nl)
  rw [b3]
  refine v_add (by omega) (nx _ ?_)
  unfold ad
  rw [if_neg (by omega), if_pos lt7]
theorem v_numL {M : xMem} {n s : Nat} {x : Nat → Int32} {post : xMem → Prop} (hT : rTx M n x) (hs : s < n) (e4 : M.1 81 4 = nI s) (e6 : M.1 81 6 = nI s) (e7 : M.1 81 7 = 0) (hK : ∀ M', (∀ j, j ≠ 81 → M'.1 j = M.1 j) → M'.2 = M.2 → (∀ k, k ≠ 4 → k ≠ 5 → k ≠ 7 → M'.1 81 k = M.1 81 k) → M'.1 81 4 = nI (endO isD x n s) → M'.1 81 5 = nI (rTk (if x s = 48 ∧ 1 < endO isD x n s - s then 1 else if 99 < nvO x n s 0 then 1 else 2)) → M'.1 81 7 = nI (nvO x n s 0) → post M') : xlp2 (b_X9_advances_175 post) M (x s) := by
  have t2 := hT.2.1
  have he := endO_le (f := isD) (x := x) (Nat.le_of_lt hs)
  refine xlp2_of (I := fun M' a => a = x s ∧ (∀ j, j ≠ 81 → M'.1 j = M.1 j) ∧ M'.2 = M.2 ∧ (∀ k, k ≠ 4 → k ≠ 7 → M'.1 81 k = M.1 81 k) ∧ ∃ q v, q ≤ n ∧ v ≤ 999 ∧ M'.1 81 4 = nI q ∧ M'.1 81 7 = nI v ∧ endO isD x n q = endO isD x n s ∧ nvO x n q v = nvO x n s 0) (mu := fun M' _ => n - (M'.1 81 4).toNatClampNeg) ?_ ⟨rfl, fun _ _ => rfl, rfl, fun _ _ _ => rfl, s, 0, Nat.le_of_lt hs, by omega, e4, e7, rfl, rfl⟩
  intro r M' a hI hr
  obtain ⟨rfl, g1, g2, g3, q, v, hq, hv, g4, g6, g5, g7⟩ := hI
  have hT' : rTx M' n x := rTx_of hT (g3 3 (by omega) (by omega)) (g1 82 (by omega))
  have p6 : M'.1 81 6 = nI s := (g3 6 (by omega) (by omega)).trans e6
  have i99 : ((99 : Int32) < nI v) ↔ 99 < v := nI_ltI (a := 99) (by omega) (by omega)
  have out : ¬ (q < n ∧ isD (x q) = true) → ((((99 : Int32) < (M'.1 81 7)) → (b_X9_advances_274 post M')) ∧ ((¬ (99 : Int32) < (M'.1 81 7)) → (((¬ x s = (48 : Int32)) → (b_X9_advances_278 post M')) ∧ ((x s = (48 : Int32)) → (((((M'.1 81 4) - (M'.1 81 6)) ≤ (1 : Int32)) → (b_X9_advances_278 post M')) ∧ ((¬ ((M'.1 81 4) - (M'.1 81 6)) ≤ (1 : Int32)) → (b_X9_advances_274 post M'))))))) := fun c => by
    rw [endO_stop c] at g5
    rw [nvO_stop c] at g7
    have fin : ∀ t, t = nI (rTk (if x s = 48 ∧ 1 < endO isD x n s - s then 1 else if 99 < nvO x n s 0 then 1 else 2)) → b_X9_advances_279 post M' t := fun t et => by
      unfold b_X9_advances_279
      intro M9 e9
      exact hK M9 (fun j hj => by rw [e9, m_row _ _ _ hj]; exact g1 j hj) (by rw [e9, m_snd]; exact g2) (fun k k4 k5 k7 => by rw [e9, m_col _ _ _ k5]; exact g3 k k4 k7) (by rw [e9, m_col _ _ _ (by omega), g4, g5]) (by rw [e9, m_same, et]) (by rw [e9, m_col _ _ _ (by omega), g6, g7])
    have i1 : (nI (endO isD x n s - s) ≤ (1 : Int32)) ↔ endO isD x n s - s ≤ 1 := nI_leI (b := 1) (by omega) (by omega)
    rw [g6, g4, p6, g5, pk_sub he.1]
    unfold b_X9_advances_274 b_X9_advances_278
    refine ⟨fun gt => fin 4 ?_, fun ngt => ⟨fun ne => fin 2 ?_, fun e => ⟨fun le => fin 2 ?_, fun nle => fin 4 ?_⟩⟩⟩
    · have : 99 < nvO x n s 0 := by rw [← g7]; exact i99.mp gt
      split <;> first | rfl | (rw [if_pos this]; rfl)
    · rw [if_neg (fun z => ne z.1), if_neg (fun z => ngt (i99.mpr (by rw [g7]; exact z)))]
      rfl
    · rw [if_neg (fun z => by have := i1.mp le; omega), if_neg (fun z => ngt (i99.mpr (by rw [g7]; exact z)))]
      rfl
    · rw [if_pos ⟨e, Nat.lt_of_not_le (fun w => nle (i1.mpr w))⟩]
      rfl
  unfold b_X9_advances_175
  rw [g4]
  rw [g4] at out
  refine v_byte hT' hq (fun hl => v_inD (fun il => z_f ?_) (fun nl => z_t (by rw [g4]; exact out (fun c => nl c.2)))) (fun nl => v_inD (fun il => absurd il (by decide)) (fun _ => z_t (by rw [g4]; exact out (fun c => nl c.1))))
  obtain ⟨b, b1, b2, b3⟩ := isD_iff.mp il
  have gv := nvO_go (v := v) hl il
  rw [b3, nI_clamp (by omega)] at gv
  have nx : ∀ v' t, v' = (if v ≤ 99 then 10 * v + b - 48 else v) → t = nI v' → b_X9_advances_229 post r M' (x s) t := fun v' t ev et => by
    unfold b_X9_advances_229
    intro M1 e1 M5 e5
    have e54 : M5.1 81 4 = nI (q + 1) := by rw [e5, m_same, e1, m_col _ _ _ (by omega), g4, nI_1]
    refine hr M5 _ ⟨rfl, fun j hj => by rw [e5, m_row _ _ _ hj, e1, m_row _ _ _ hj]; exact g1 j hj, by rw [e5, m_snd, e1, m_snd]; exact g2, fun k k4 k7 => by rw [e5, m_col _ _ _ k4, e1, m_col _ _ _ k7]; exact g3 k k4 k7, q + 1, v', hl, by rw [ev]; split <;> omega, e54, by rw [e5, m_col _ _ _ (by omega), e1, m_same, et], by rw [endO_go hl il]; exact g5, by rw [ev, gv]; exact g7⟩ ?_
    show n - (M5.1 81 4).toNatClampNeg < n - (M'.1 81 4).toNatClampNeg
    rw [e54, g4, nI_clamp (by omega), nI_clamp (by omega)]
    omega
  have j99 : (nI v ≤ (99 : Int32)) ↔ v ≤ 99 := nI_leI (b := 99) (by omega) (by omega)
  rw [g6, g4]
  refine ⟨fun le => ?_, fun nle => nx v _ (by rw [if_neg (fun z => nle (j99.mpr z))]) rfl⟩
  refine v_byte hT' hq (fun _ => nx (10 * v + b - 48) _ (by rw [if_pos (j99.mp le)]) ?_) (fun nl => absurd hl nl)
  rw [b3, show (10 : Int32) = nI 10 from rfl, pk_mul, nI_add, show (48 : Int32) = nI 48 from rfl, pk_sub (by omega)]
theorem v_adv {M : xMem} {n p : Nat} {x : Nat → Int32} {post : xMem → Prop} (hT : rTx M n x) (hp : p ≤ n) (e4 : M.1 81 4 = nI p) (hK : ∀ M', rTkn M M' x n p → post M') : w_X9_advances M post := by
  have t2 := hT.2.1
  obtain ⟨s1, s2⟩ := tkS_le (x := x) hp
  unfold w_X9_advances
  refine xlp1_of (I := fun M' => (∀ j, j ≠ 81 → M'.1 j = M.1 j) ∧ M'.2 = M.2 ∧ (∀ k, k ≠ 4 → M'.1 81 k = M.1 81 k) ∧ ∃ q, q ≤ n ∧ M'.1 81 4 = nI q ∧ endO isB x n q = tkS x n p) (mu := fun M' => n - (M'.1 81 4).toNatClampNeg) ?_ ⟨fun _ _ => rfl, rfl, fun _ _ => rfl, p, hp, e4, rfl⟩
  intro r M' hI hr
  obtain ⟨g1, g2, g3, q, hq, g4, g5⟩ := hI
  have hT' : rTx M' n x := rTx_of hT (g3 3 (by omega)) (g1 82 (by omega))
  have out : ¬ (q < n ∧ isB (x q) = true) → ∀ M4 : xMem, M4 = xset M' 81 6 (M'.1 81 4) → (w_X9_byteAt M4 (M4.1 81 4) (fun z5 M6 => ((0 ≤ z5) → (w_X9_in M6 z5 (97 : Int32) (122 : Int32) (fun z8 M9 => ((z8 = 0) → (w_X9_in M9 z5 (48 : Int32) (57 : Int32) (fun z11 M12 => ((z11 = 0) → (∀ M14 : xMem, M14 = xset M12 81 4 ((M12.1 81 4) + (1 : Int32)) → (((¬ z5 = (59 : Int32)) → (b_X9_advances_307 post M14 (4 : Int32))) ∧ ((z5 = (59 : Int32)) → (b_X9_advances_307 post M14 (3 : Int32)))))) ∧ ((¬ z11 = 0) → (∀ M16 : xMem, M16 = xset M12 81 7 (0 : Int32) → (xlp2 (b_X9_advances_175 post) M16 z5)))))) ∧ ((¬ z8 = 0) → (xlp2 (b_X9_advances_68 post) M9 (0 : Int64)))))) ∧ ((¬ 0 ≤ z5) → (∀ M17 : xMem, M17 = xset M6 81 5 (0 : Int32) → (post M17))))) := fun c M4 e4' => by
    rw [endO_stop c] at g5
    have n1 : ∀ j, j ≠ 81 → M4.1 j = M.1 j := fun j hj => by rw [e4', m_row _ _ _ hj]; exact g1 j hj
    have n2 : M4.2 = M.2 := by rw [e4', m_snd]; exact g2
    have n3 : ∀ k, k ≠ 4 → k ≠ 6 → M4.1 81 k = M.1 81 k := fun k k4 k6 => by rw [e4', m_col _ _ _ k6]; exact g3 k k4
    have n4 : M4.1 81 4 = nI q := by rw [e4', m_col _ _ _ (by omega)]; exact g4
    have n6 : M4.1 81 6 = nI q := by rw [e4', m_same]; exact g4
    have hT4 : rTx M4 n x := rTx_of hT (n3 3 (by omega) (by omega)) (n1 82 (by omega))
    rw [n4]
    refine v_byte hT4 hq (fun hl => ?_) (fun nl => ⟨fun z => absurd z (by decide), fun _ M17 e17 => ?_⟩)
    · have hlS : tkS x n p < n := by omega
      obtain ⟨b, b1, b2⟩ := (hT4.2.2 q hl).2
      refine ⟨fun _ => v_inL (fun il => z_f ?_) (fun nl => z_t (v_inD (fun id => z_f (fun M16 e16 => ?_)) (fun nd => z_t (fun M14 e14 => ?_)))), fun z => absurd (by rw [b2]; exact nI_pos' (by omega)) z⟩
      · refine v_wordL hT4 hq n4 n6 (fun M3 a1 a2 a3 a4 a5 a6 => hK M3 ⟨fun j hj => (a1 j hj).trans (n1 j hj), a2.trans n2, fun k k4 k5 k6 k7 => (a3 k k4 k5 k7).trans (n3 k k4 k6), ?_, ?_, ?_, fun h2 => ?_, fun _ => ?_⟩)
        · rw [a4]
          unfold tkE
          rw [if_pos hlS, ← g5, if_pos il]
        · rw [a3 6 (by omega) (by omega) (by omega), n6, g5]
        · rw [a5]
          unfold tkC
          rw [if_pos hlS, ← g5, if_pos il]
        · unfold tkC at h2
          rw [if_pos hlS, ← g5, if_pos il] at h2
          have := wcode_le (ltO x n q)
          omega
        · rw [a6]
          unfold tkC
          rw [if_pos hlS, ← g5, if_pos il]
      · have hT16 : rTx M16 n x := rTx_of hT4 (by rw [e16, m_col _ _ _ (by omega)]) (by rw [e16, m_row _ _ _ (by omega)])
        refine v_numL hT16 hl (by rw [e16, m_col _ _ _ (by omega)]; exact n4) (by rw [e16, m_col _ _ _ (by omega)]; exact n6) (by rw [e16, m_same]) (fun M3 a1 a2 a3 a4 a5 a6 => hK M3 ⟨fun j hj => (a1 j hj).trans ((by rw [e16, m_row _ _ _ hj] : M16.1 j = M4.1 j).trans (n1 j hj)), a2.trans ((by rw [e16, m_snd] : M16.2 = M4.2).trans n2), fun k k4 k5 k6 k7 => (a3 k k4 k5 k7).trans ((by rw [e16, m_col _ _ _ k7] : M16.1 81 k = M4.1 81 k).trans (n3 k k4 k6)), ?_, ?_, ?_, fun h2 => ?_, fun h4 => ?_⟩)
        · rw [a4]
          unfold tkE
          rw [if_pos hlS, ← g5, if_neg nl, if_pos id]
        · rw [a3 6 (by omega) (by omega) (by omega), e16, m_col _ _ _ (by omega), n6, g5]
        · rw [a5]
          unfold tkC tkV
          rw [if_pos hlS, ← g5, if_neg nl, if_pos id]
        · rw [a6]
          unfold tkV
          rw [← g5]
        · unfold tkC at h4
          rw [if_pos hlS, ← g5, if_neg nl, if_pos id] at h4
          repeat' split at h4
          all_goals omega
      · have fin : ∀ c, tkC x n p = c → (c = 1 ∨ c = 3) → b_X9_advances_307 post M14 (nI (rTk c)) := fun c hc hc2 => by
          unfold b_X9_advances_307
          intro M5 e5
          refine hK M5 ⟨fun j hj => by rw [e5, m_row _ _ _ hj, e14, m_row _ _ _ hj]; exact n1 j hj, by rw [e5, m_snd, e14, m_snd]; exact n2, fun k k4 k5 k6 k7 => by rw [e5, m_col _ _ _ k5, e14, m_col _ _ _ k4]; exact n3 k k4 k6, ?_, ?_, ?_, fun h2 => ?_, fun h4 => ?_⟩
          · rw [e5, m_col _ _ _ (by omega), e14, m_same, n4, nI_1]
            unfold tkE
            rw [if_pos hlS, ← g5, if_neg nl, if_neg nd]
          · rw [e5, m_col _ _ _ (by omega), e14, m_col _ _ _ (by omega), n6, g5]
          · rw [e5, m_same, hc]
          · omega
          · omega
        refine ⟨fun ne => fin 1 ?_ (by omega), fun e => fin 3 ?_ (by omega)⟩
        · unfold tkC
          rw [if_pos hlS, ← g5, if_neg nl, if_neg nd, if_neg ne]
        · unfold tkC
          rw [if_pos hlS, ← g5, if_neg nl, if_neg nd, if_pos e]
    · have hS : ¬ tkS x n p < n := by omega
      have c0 : tkC x n p = 0 := by
        unfold tkC
        rw [if_neg hS]
      refine hK M17 ⟨fun j hj => by rw [e17, m_row _ _ _ hj]; exact n1 j hj, by rw [e17, m_snd]; exact n2, fun k k4 k5 k6 k7 => by rw [e17, m_col _ _ _ k5]; exact n3 k k4 k6, ?_, ?_, ?_, fun h2 => by omega, fun h4 => by omega⟩
      · rw [e17, m_col _ _ _ (by omega), n4]
        unfold tkE
        rw [if_neg hS, g5]
      · rw [e17, m_col _ _ _ (by omega), n6, g5]
      · rw [e17, m_same, c0]
        rfl
  unfold b_X9_advances_0
  rw [g4]
  refine v_byte hT' hq (fun hl => ⟨fun ne => by rw [g4]; rw [g4] at out; exact out (fun c => ne (decide_eq_true_eq.mp c.2)), fun e M4 e4' => ?_⟩) (fun nl => ⟨fun _ => by rw [g4]; rw [g4] at out; exact out (fun c => nl c.1), fun e => absurd e (by decide)⟩)
  have e44 : M4.1 81 4 = nI (q + 1) := by rw [e4', m_same, g4, nI_1]
  refine hr M4 ⟨fun j hj => by rw [e4', m_row _ _ _ hj]; exact g1 j hj, by rw [e4', m_snd]; exact g2, fun k hk => by rw [e4', m_col _ _ _ hk]; exact g3 k hk, q + 1, hl, e44, by rw [endO_go hl (decide_eq_true e)]; exact g5⟩ ?_
  show n - (M4.1 81 4).toNatClampNeg < n - (M'.1 81 4).toNatClampNeg
  rw [e44, g4, nI_clamp (by omega), nI_clamp (by omega)]
  omega
