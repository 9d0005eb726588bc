/-! plans -/
theorem sumB_rng {v : Nat → Int32} {s : Nat} : ∀ n, (∀ i, i < n → inN (v i) 100) → ∃ k, k ≤ 99 * n ∧ sumB v s n = nI k
  | 0, _ => ⟨0, by omega, rfl⟩
  | n + 1, h => by
    obtain ⟨k, k1, k2⟩ := sumB_rng n (fun i hi => h i (Nat.lt_succ_of_lt hi))
    obtain ⟨j, j1, j2⟩ := h n (Nat.lt_succ_self n)
    unfold sumB
    by_cases c : s.testBit n = true
    · rw [if_pos c]
      exact ⟨k + j, by omega, by rw [k2, j2, nI_add]⟩
    · rw [if_neg c]
      exact ⟨k, by omega, k2⟩
theorem sumB_0 {v : Nat → Int32} : ∀ n, sumB v 0 n = 0
  | 0 => rfl
  | n + 1 => by
    unfold sumB
    rw [Nat.zero_testBit, if_neg (by decide)]
    exact sumB_0 n
def plS (paid : Int32) (W B C : Nat → Int32) : Nat → Int32 × Int32
  | 0 => (0, 0)
  | n + 1 => if paid = 0 ∧ B (n + 1) ≠ 0 then plS paid W B C n else if W (n + 1) - C (n + 1) ≤ (plS paid W B C n).2 then plS paid W B C n else (nI (n + 1), W (n + 1) - C (n + 1))
theorem plS_pos {paid : Int32} {W B C : Nat → Int32} : ∀ n, 0 ≤ (plS paid W B C n).2.toInt
  | 0 => by
    show 0 ≤ (0 : Int32).toInt
    decide
  | n + 1 => by
    have ih := plS_pos (paid := paid) (W := W) (B := B) (C := C) n
    unfold plS
    split
    · exact ih
    · split
      · exact ih
      · next h =>
        rw [q_le] at h
        show 0 ≤ (W (n + 1) - C (n + 1)).toInt
        omega
theorem nI_bits {s : Nat} (h : s < 2 ^ 31) : (nI s).toBitVec.toNat = s := by
  show (BitVec.ofNat 32 s).toNat = s
  rw [BitVec.toNat_ofNat, Nat.mod_eq_of_lt (by omega)]
theorem u_choose {M : xMem} {h nw hr : Nat} {paid : Int32} {post : xMem → Prop} (hk : kd h = 2) (e2 : M.1 h 2 = nI nw) (hnw : nw ≤ 6) (hh : hr < 12) (h1435 : h ≠ 14 ∧ h + 20 ≠ 14 ∧ h + 21 ≠ 14 ∧ h + 22 ≠ 14) (hB : ∀ s, s < 2 ^ nw → inN (M.1 15 s &&& M.1 (h + 20) hr) 256) (hK : ∀ M', (∀ j, j ≠ 14 → M'.1 j = M.1 j) → M'.2 = M.2 → M'.1 14 2 = (plS paid (M.1 (h + 21)) (fun s => M.1 15 s &&& M.1 (h + 20) hr) (fun s => M.1 (h + 22) (M.1 15 s &&& M.1 (h + 20) hr).toNatClampNeg) (2 ^ nw - 1)).1 → M'.1 14 3 = (plS paid (M.1 (h + 21)) (fun s => M.1 15 s &&& M.1 (h + 20) hr) (fun s => M.1 (h + 22) (M.1 15 s &&& M.1 (h + 20) hr).toNatClampNeg) (2 ^ nw - 1)).2 → post M') : w_X4_choose M h (nI hr) paid post := by
  have h64 : 2 ^ nw ≤ 2 ^ 6 := Nat.pow_le_pow_right (by decide) hnw
  have hpos := Nat.two_pow_pos nw
  unfold w_X4_choose
  intro M1 e1 M2 e2'
  refine xlp5_of (I := fun M' a b c q => a = h ∧ b = nI hr ∧ c = paid ∧ ∃ k, k < 2 ^ nw ∧ q = nI (k + 1) ∧ (∀ j, j ≠ 14 → M'.1 j = M.1 j) ∧ M'.2 = M.2 ∧ M'.1 14 2 = (plS paid (M.1 (h + 21)) (fun s => M.1 15 s &&& M.1 (h + 20) hr) (fun s => M.1 (h + 22) (M.1 15 s &&& M.1 (h + 20) hr).toNatClampNeg) k).1 ∧ M'.1 14 3 = (plS paid (M.1 (h + 21)) (fun s => M.1 15 s &&& M.1 (h + 20) hr) (fun s => M.1 (h + 22) (M.1 15 s &&& M.1 (h + 20) hr).toNatClampNeg) k).2) (mu := fun _ _ _ _ q => 2 ^ nw - q.toNatClampNeg) ?_ ⟨rfl, rfl, rfl, 0, hpos, rfl, fun j hj => by rw [e2', m_row _ _ _ hj, e1, m_row _ _ _ hj], by rw [e2', m_snd, e1, m_snd], by rw [e2', m_col _ _ _ (by omega), e1, m_same]; rfl, by rw [e2', m_same]; rfl⟩
  intro r M' a b c q hI hr'
  obtain ⟨rfl, rfl, rfl, k, hk', rfl, g1, g2, g3, g4⟩ := hI
  unfold b_X4_choose_13
  refine u_allW hk (by rw [g1 a h1435.1]; exact e2) hnw ?_
  refine ⟨fun q => ?_, fun q => ?_⟩
  · have := (nI_ltI (by omega) (by omega)).mp q
    have e : k = 2 ^ nw - 1 := by omega
    rw [e] at g3 g4
    exact hK M' g1 g2 g3 g4
  · have hl : k + 1 < 2 ^ nw := by
      have : ¬ 2 ^ nw - 1 < k + 1 := fun y => q ((nI_ltI (by omega) (by omega)).mpr y)
      omega
    refine ⟨vp_in_nI (by omega) (by omega), vp_in_nI hh (by omega), fun v7 e7 => ?_⟩
    rw [nI_clamp (by omega), nI_clamp (by omega)] at e7
    have e7' : v7 = M.1 15 (k + 1) &&& M.1 (a + 20) hr := by
      rw [e7]
      show M'.1 15 (k + 1) &&& _ = _
      rw [g1 15 (by omega), g1 (a + 20) h1435.2.1]
    have nx : ∀ M3, (∀ j, j ≠ 14 → M3.1 j = M.1 j) → M3.2 = M.2 → M3.1 14 2 = (plS c (M.1 (a + 21)) (fun s => M.1 15 s &&& M.1 (a + 20) hr) (fun s => M.1 (a + 22) (M.1 15 s &&& M.1 (a + 20) hr).toNatClampNeg) (k + 1)).1 → M3.1 14 3 = (plS c (M.1 (a + 21)) (fun s => M.1 15 s &&& M.1 (a + 20) hr) (fun s => M.1 (a + 22) (M.1 15 s &&& M.1 (a + 20) hr).toNatClampNeg) (k + 1)).2 → b_X4_choose_88 post r M3 a (nI hr) c (nI (k + 1)) := fun M3 a1 a2 a3 a4 => by
      unfold b_X4_choose_88
      rw [nI_1]
      refine hr' _ _ _ _ _ ⟨rfl, rfl, rfl, k + 1, hl, rfl, a1, a2, a3, a4⟩ ?_
      show 2 ^ nw - (nI (k + 1 + 1)).toNatClampNeg < 2 ^ nw - (nI (k + 1)).toNatClampNeg
      rw [nI_clamp (by omega), nI_clamp (by omega)]
      omega
    have un : plS c (M.1 (a + 21)) (fun s => M.1 15 s &&& M.1 (a + 20) hr) (fun s => M.1 (a + 22) (M.1 15 s &&& M.1 (a + 20) hr).toNatClampNeg) (k + 1) = if c = 0 ∧ v7 ≠ 0 then plS c (M.1 (a + 21)) (fun s => M.1 15 s &&& M.1 (a + 20) hr) (fun s => M.1 (a + 22) (M.1 15 s &&& M.1 (a + 20) hr).toNatClampNeg) k else if M.1 (a + 21) (k + 1) - M.1 (a + 22) v7.toNatClampNeg ≤ (plS c (M.1 (a + 21)) (fun s => M.1 15 s &&& M.1 (a + 20) hr) (fun s => M.1 (a + 22) (M.1 15 s &&& M.1 (a + 20) hr).toNatClampNeg) k).2 then plS c (M.1 (a + 21)) (fun s => M.1 15 s &&& M.1 (a + 20) hr) (fun s => M.1 (a + 22) (M.1 15 s &&& M.1 (a + 20) hr).toNatClampNeg) k else (nI (k + 1), M.1 (a + 21) (k + 1) - M.1 (a + 22) v7.toNatClampNeg) := by
      rw [e7']
      rfl
    rw [un] at nx
    have h50 : ¬ (c = 0 ∧ v7 ≠ 0) → b_X4_choose_50 post r M' a (nI hr) c (nI (k + 1)) v7 := fun nn => by
      rw [if_neg nn] at nx
      unfold b_X4_choose_50
      have iv : inN v7 256 := by rw [e7']; exact hB (k + 1) hl
      obtain ⟨v, v1, v2⟩ := iv
      refine ⟨hk, vp_in_nI (by omega) (by omega), by rw [v2]; exact vp_in_nI v1 (by omega), fun v4 e4 => ?_⟩
      rw [nI_clamp (by omega), g1 (a + 21) h1435.2.2.1, g1 (a + 22) h1435.2.2.2] at e4
      rw [← e4] at nx
      rw [g4]
      refine ⟨fun y => ?_, fun y M6 e6 M7 e7 => ?_⟩
      · rw [if_pos y] at nx
        exact nx M' g1 g2 g3 g4
      · rw [if_neg y] at nx
        refine nx M7 (fun j hj => ?_) ?_ ?_ ?_
        · rw [e7, m_row _ _ _ hj, e6, m_row _ _ _ hj]
          exact g1 j hj
        · rw [e7, m_snd, e6, m_snd]
          exact g2
        · rw [e7, m_same]
        · rw [e7, m_col _ _ _ (by omega), e6, m_same]
    refine ⟨fun c0 => h50 (fun z => c0 z.1), fun c0 => ⟨fun v0 => h50 (fun z => z.2 v0), fun v0 => ?_⟩⟩
    rw [if_pos ⟨c0, v0⟩] at nx
    exact nx M' g1 g2 g3 g4
/-- the reference's prices of a set of deeds -/
theorem v_pricesOf {M : xMem} {nd k : Nat} {post : Int32 → xMem → Prop} (e21 : M.1 81 21 = nI nd) (hnd : nd ≤ 8) (hk : k < 2 ^ nd) (hp : post (sumB (fun i => M.1 88 (5 * i + 4)) k nd) M) : w_X9_pricesOf M (nI k) post := by
  have h256 : 2 ^ nd ≤ 2 ^ 8 := Nat.pow_le_pow_right (by decide) hnd
  unfold w_X9_pricesOf
  refine cnt4 nd (by omega) (sumB (fun i => M.1 88 (5 * i + 4)) k) rfl (fun r j hj hr => ?_)
  unfold b_X9_pricesOf_4
  rw [e21]
  refine ⟨fun q => ?_, fun q => ?_⟩
  · have e : j = nd := Nat.le_antisymm hj ((nI_cond (by omega) (by omega)).mp q)
    rw [e]
    exact hp
  · have hl : j < nd := Nat.lt_of_not_le (fun q2 => q ((nI_cond (by omega) (by omega)).mpr q2))
    have ea : (5 : Int32) * nI j + (4 : Int32) = nI (5 * j + 4) := by rw [show (5 : Int32) = nI 5 from rfl, show (4 : Int32) = nI 4 from rfl, pk_mul, nI_add]
    have un : sumB (fun i => M.1 88 (5 * i + 4)) k (j + 1) = if k.testBit j = true then sumB (fun i => M.1 88 (5 * i + 4)) k j + M.1 88 (5 * j + 4) else sumB (fun i => M.1 88 (5 * i + 4)) k j := rfl
    have h1 := hr hl
    rw [un] at h1
    rw [bit_get (by omega) (by omega), ea, nI_clamp (by omega)]
    unfold b_X9_pricesOf_36
    rw [nI_1]
    by_cases bt : k.testBit j = true
    · rw [if_pos bt] at h1 ⊢
      exact ⟨fun a => absurd rfl a, fun _ => ⟨vp_in_nI (by omega) (by omega), h1⟩⟩
    · rw [if_neg bt] at h1 ⊢
      rw [Int32.add_zero]
      exact ⟨fun _ => h1, fun a => absurd a (by decide)⟩
theorem v_plans {M : xMem} {n nw nd hr : Nat} {paid : Int32} {W B C : Nat → Int32} {post : xMem → Prop} (e20 : M.1 81 20 = nI nw) (e21 : M.1 81 21 = nI nd) (hW : rW n nw (M.1 87)) (hD : rD n nd (M.1 88)) (hn : n ≤ 48) (hnw : nw ≤ 6) (hnd : nd ≤ 8) (hh : hr < 12) (hp : inN paid 2) (hWs : ∀ s, s < 2 ^ nw → W s = sumB (fun i => M.1 87 (4 * i + 3)) s nw) (hB : ∀ s, s < 2 ^ nw → ∀ x, bitsOf x nd (brR M nw hr (nI s)) → B s = x) (hC : ∀ s, s < 2 ^ nw → ∃ k, k < 2 ^ nd ∧ B s = nI k ∧ C s = sumB (fun i => M.1 88 (5 * i + 4)) k nd) (hK : ∀ M', (∀ j, j ≠ 81 → M'.1 j = M.1 j) → (∀ k, k ≠ 25 → k ≠ 26 → M'.1 81 k = M.1 81 k) → M'.2 = M.2 → M'.1 81 25 = (plS paid W B C (2 ^ nw - 1)).1 → M'.1 81 26 = (plS paid W B C (2 ^ nw - 1)).2 → post M') : w_X9_plans M (nI hr) paid post := by
  have h64 : 2 ^ nw ≤ 2 ^ 6 := Nat.pow_le_pow_right (by decide) hnw
  have h256 : 2 ^ nd ≤ 2 ^ 8 := Nat.pow_le_pow_right (by decide) hnd
  have hpos := Nat.two_pow_pos nw
  unfold w_X9_plans
  intro M1 e1 M2 e2
  refine xlp4_of (I := fun M' a b q => a = nI hr ∧ b = paid ∧ ∃ k, k < 2 ^ nw ∧ q = nI (k + 1) ∧ (∀ j, j ≠ 81 → M'.1 j = M.1 j) ∧ (∀ k, k ≠ 25 → k ≠ 26 → M'.1 81 k = M.1 81 k) ∧ M'.2 = M.2 ∧ M'.1 81 25 = (plS paid W B C k).1 ∧ M'.1 81 26 = (plS paid W B C k).2) (mu := fun _ _ _ q => 2 ^ nw - q.toNatClampNeg) ?_ ⟨rfl, rfl, 0, hpos, rfl, fun j hj => by rw [e2, m_row _ _ _ hj, e1, m_row _ _ _ hj], fun k a b => by rw [e2, m_col _ _ _ b, e1, m_col _ _ _ a], by rw [e2, m_snd, e1, m_snd], by rw [e2, m_col _ _ _ (by omega), e1, m_same]; rfl, by rw [e2, m_same]; rfl⟩
  intro r M' a b q hI hr'
  obtain ⟨rfl, rfl, k, hk, rfl, g1, g2, g3, g4, g5⟩ := hI
  unfold b_X9_plans_12
  rw [g2 20 (by omega) (by omega), e20, bit_one (by omega)]
  refine ⟨fun q => ?_, fun q => ?_⟩
  · have := (nI_cond (by omega) (by omega)).mp q
    have e : k = 2 ^ nw - 1 := by omega
    rw [e] at g4 g5
    exact hK M' g1 g2 g3 g4 g5
  · have hl : k + 1 < 2 ^ nw := Nat.lt_of_not_le (fun y => q ((nI_cond (by omega) (by omega)).mpr y))
    have f87 : M'.1 87 = M.1 87 := g1 87 (by omega)
    have f88 : M'.1 88 = M.1 88 := g1 88 (by omega)
    have f89 : M'.1 89 = M.1 89 := g1 89 (by omega)
    have f20 : M'.1 81 20 = nI nw := (g2 20 (by omega) (by omega)).trans e20
    have f21 : M'.1 81 21 = nI nd := (g2 21 (by omega) (by omega)).trans e21
    have un : plS b W B C (k + 1) = if b = 0 ∧ B (k + 1) ≠ 0 then plS b W B C k else if W (k + 1) - C (k + 1) ≤ (plS b W B C k).2 then plS b W B C k else (nI (k + 1), W (k + 1) - C (k + 1)) := rfl
    have pos := plS_pos (paid := b) (W := W) (B := B) (C := C) k
    have nx : ∀ M3, (∀ j, j ≠ 81 → M3.1 j = M.1 j) → (∀ k, k ≠ 25 → k ≠ 26 → M3.1 81 k = M.1 81 k) → M3.2 = M.2 → M3.1 81 25 = (plS b W B C (k + 1)).1 → M3.1 81 26 = (plS b W B C (k + 1)).2 → b_X9_plans_163 post r M3 (nI hr) b (nI (k + 1)) := fun M3 a1 a2 a3 a4 a5 => by
      unfold b_X9_plans_163
      rw [nI_1]
      refine hr' _ _ _ _ ⟨rfl, rfl, k + 1, hl, rfl, a1, a2, a3, a4, a5⟩ ?_
      show 2 ^ nw - (nI (k + 1 + 1)).toNatClampNeg < 2 ^ nw - (nI (k + 1)).toNatClampNeg
      rw [nI_clamp (by omega), nI_clamp (by omega)]
      omega
    obtain ⟨kk, kk1, kk2, kk3⟩ := hC (k + 1) hl
    obtain ⟨c, c1, c2⟩ := sumB_rng (v := fun i => M.1 88 (5 * i + 4)) (s := kk) nd (fun i hi => (hD i hi).2.2.2.2.2)
    obtain ⟨wv, wv1, wv2⟩ := sumB_rng (v := fun i => M.1 87 (4 * i + 3)) (s := k + 1) nw (fun i hi => (hW i hi).2.2.2.2)
    have eW : W (k + 1) = nI wv := (hWs (k + 1) hl).trans wv2
    have eC : C (k + 1) = nI c := kk3.trans c2
    have t118 : ∀ s0 : Int32, (if s0 ≤ (plS b W B C k).2 then plS b W B C k else (nI (k + 1), s0)) = plS b W B C (k + 1) → b_X9_plans_118 post r M' (nI hr) b (nI (k + 1)) s0 := fun s0 hs => by
      unfold b_X9_plans_118 b_X9_plans_138 b_X9_plans_160
      have key : ∀ s1 : Int32, s1 = (plS b W B C (k + 1)).1 → ∀ M1, M1 = xset M' 81 25 s1 → (s0 ≤ M1.1 81 26 → ∀ M2, M2 = xset M1 81 26 (M1.1 81 26) → b_X9_plans_163 post r M2 (nI hr) b (nI (k + 1))) ∧ (¬ s0 ≤ M1.1 81 26 → ∀ M2, M2 = xset M1 81 26 s0 → b_X9_plans_163 post r M2 (nI hr) b (nI (k + 1))) := fun s1 hs1 M1 e1 => by
        have e26 : M1.1 81 26 = (plS b W B C k).2 := by rw [e1, m_col _ _ _ (by omega)]; exact g5
        have fin : ∀ v, v = (plS b W B C (k + 1)).2 → ∀ M2, M2 = xset M1 81 26 v → b_X9_plans_163 post r M2 (nI hr) b (nI (k + 1)) := fun v hv M2 e2 => by
          refine nx M2 (fun j hj => ?_) (fun k x y => ?_) ?_ ?_ ?_
          · rw [e2, m_row _ _ _ hj, e1, m_row _ _ _ hj]
            exact g1 j hj
          · rw [e2, m_col _ _ _ y, e1, m_col _ _ _ x]
            exact g2 k x y
          · rw [e2, m_snd, e1, m_snd]
            exact g3
          · rw [e2, m_col _ _ _ (by omega), e1, m_same]
            exact hs1
          · rw [e2, m_same]
            exact hv
        rw [e26]
        refine ⟨fun y => fin _ ?_, fun y => fin _ ?_⟩
        · rw [← hs, if_pos y]
        · rw [← hs, if_neg y]
      rw [g5]
      refine ⟨fun y => key _ ?_, fun y => key _ ?_⟩
      · rw [← hs, if_pos y]
        exact g4
      · rw [← hs, if_neg y]
    refine cnt6 nw (by omega) (fun j x y => x = nI (k + 1) ∧ y = sumB (fun i => M.1 87 (4 * i + 3)) (k + 1) j) ⟨rfl, rfl⟩ (fun r2 j x y hj hx hr2 => ?_)
    obtain ⟨rfl, rfl⟩ := hx
    unfold b_X9_plans_28
    rw [f20]
    refine ⟨fun q => ?_, fun q => ?_⟩
    · have e : j = nw := Nat.le_antisymm hj ((nI_cond (by omega) (by omega)).mp q)
      subst e
      rw [← hWs (k + 1) hl, g5]
      refine ⟨fun y => ?_, fun y => ?_⟩
      · have same : plS b W B C (k + 1) = plS b W B C k := by
          rw [un]
          by_cases z : b = 0 ∧ B (k + 1) ≠ 0
          · rw [if_pos z]
          · rw [if_neg z, if_pos]
            rw [q_le] at y ⊢
            rw [eW, q_toI _ (by omega)] at y
            rw [eW, eC, pk_sub_toInt (by omega) (by omega)]
            omega
        rw [same] at nx
        exact nx M' g1 g2 g3 g4 g5
      · refine v_brokenBy (n := n) f20 f21 (by rw [f88]; exact hD) hn hnw hnd hh (fun x hx => ?_)
        have eb : brR M' j hr (nI (k + 1)) = brR M j hr (nI (k + 1)) := by
          funext i
          unfold brR
          rw [f88, f87, f89]
        rw [eb] at hx
        have ex := hB (k + 1) hl x hx
        refine ⟨fun n1 => ?_, fun y1 => ?_⟩
        · have b0 : b = 0 := by
            obtain ⟨u, u1, u2⟩ := hp
            rcases (show u = 0 ∨ u = 1 by omega) with rfl | rfl
            · exact u2
            · exact absurd u2 n1
          refine ⟨fun x0 => t118 0 ?_, fun x0 => t118 _ ?_⟩
          · rw [un.trans (if_pos ⟨b0, by rw [ex]; exact x0⟩), if_pos]
            rw [q_le]
            exact pos
          · have bz : B (k + 1) = 0 := ex.trans x0
            have k0 : kk = 0 := q_inj (a := kk) (b := 0) (by omega) (by omega) (kk2.symm.trans bz)
            have c0 : C (k + 1) = 0 := by rw [kk3, k0]; exact sumB_0 nd
            rw [un.trans (if_neg (fun z => z.2 bz)), c0, Int32.sub_zero]
        · have b1 : ¬ b = 0 := by rw [y1]; decide
          rw [← ex, kk2]
          refine v_pricesOf f21 hnd kk1 ?_
          rw [f88, ← kk3]
          refine t118 _ ?_
          rw [un.trans (if_neg (fun z => b1 z.1))]
    · have hl2 : j < nw := Nat.lt_of_not_le (fun q2 => q ((nI_cond (by omega) (by omega)).mpr q2))
      have ea : (4 : Int32) * nI j + (3 : Int32) = nI (4 * j + 3) := by rw [show (4 : Int32) = nI 4 from rfl, show (3 : Int32) = nI 3 from rfl, pk_mul, nI_add]
      have un2 : sumB (fun i => M.1 87 (4 * i + 3)) (k + 1) (j + 1) = if (k + 1).testBit j = true then sumB (fun i => M.1 87 (4 * i + 3)) (k + 1) j + M.1 87 (4 * j + 3) else sumB (fun i => M.1 87 (4 * i + 3)) (k + 1) j := rfl
      have h1 := fun y (hy : y = sumB (fun i => M.1 87 (4 * i + 3)) (k + 1) (j + 1)) => hr2 hl2 (nI (k + 1)) y ⟨rfl, hy⟩
      rw [un2] at h1
      rw [bit_get (by omega) (by omega), ea, nI_clamp (by omega)]
      unfold b_X9_plans_64
      rw [nI_1]
      by_cases bt : (k + 1).testBit j = true
      · rw [if_pos bt] at h1 ⊢
        refine ⟨fun a => absurd rfl a, fun _ => ⟨vp_in_nI (by omega) (by omega), h1 _ ?_⟩⟩
        show _ + M'.1 87 (4 * j + 3) = _
        rw [f87]
      · rw [if_neg bt] at h1 ⊢
        exact ⟨fun _ => h1 _ (Int32.add_zero _), fun a => absurd a (by decide)⟩
