/-! typing -/
theorem by_one (v : BitVec 64) (s : Nat) (hs : s ≤ 56) : (v >>> s).setWidth 32 &&& 255#32 = ((v.sshiftRight s) &&& 255#64).setWidth 32 := by
  apply BitVec.eq_of_getLsbD_eq
  intro i hi
  rw [BitVec.getLsbD_and, BitVec.getLsbD_setWidth, BitVec.getLsbD_setWidth, BitVec.getLsbD_and, BitVec.getLsbD_ushiftRight, BitVec.getLsbD_sshiftRight]
  by_cases h8 : i < 8
  · have h1 : s + i < 64 := by omega
    have h2 : i < 64 := by omega
    have h3 : (255#32).getLsbD i = (255#64).getLsbD i := by
      rcases (show i = 0 ∨ i = 1 ∨ i = 2 ∨ i = 3 ∨ i = 4 ∨ i = 5 ∨ i = 6 ∨ i = 7 by omega) with rfl | rfl | rfl | rfl | rfl | rfl | rfl | rfl <;> rfl
    rw [h3]
    simp [hi, h1, h2, Nat.not_le.mpr h2]
  · have h3 : (255#32).getLsbD i = false := by
      rw [BitVec.getLsbD_ofNat]
      simp only [hi, decide_true, Bool.true_and]
      exact Nat.testBit_lt_two_pow (Nat.lt_of_lt_of_le (show 255 < 2 ^ 8 by decide) (Nat.pow_le_pow_right (by decide) (Nat.le_of_not_lt h8)))
    have h4 : (255#64).getLsbD i = false := by
      rw [BitVec.getLsbD_ofNat]
      simp only [show i < 64 by omega, decide_true, Bool.true_and]
      exact Nat.testBit_lt_two_pow (Nat.lt_of_lt_of_le (show 255 < 2 ^ 8 by decide) (Nat.pow_le_pow_right (by decide) (Nat.le_of_not_lt h8)))
    rw [h3, h4]
    simp
def byC (v : Int64) (p : Int32) : Int32 := ((v.toUInt64 >>> (((8 : Int32) * p).toInt64.toUInt64 &&& Int64.toUInt64 63)).toInt64).toInt32 &&& (255 : Int32)
def byR (v : Int64) (p : Int32) : Int32 := ((v >>> (((8 : Int32) * p).toInt64 &&& 63)) &&& (255 : Int64)).toInt32
theorem by_cs (v : Int64) (p : Int32) (s : Nat) (hs : s ≤ 56) (e : ((8 : Int32) * p).toInt64 &&& 63 = Int64.ofNat s) (e2 : ((8 : Int32) * p).toInt64.toUInt64 &&& Int64.toUInt64 63 = UInt64.ofNat s) : byC v p = byR v p := by
  unfold byC byR
  rw [e, e2]
  apply Int32.toBitVec_inj.mp
  have h1 : (v.toUInt64 >>> UInt64.ofNat s).toInt64.toBitVec = v.toBitVec >>> s := by
    show (v.toUInt64 >>> UInt64.ofNat s).toBitVec = _
    rw [UInt64.toBitVec_shiftRight]
    show v.toBitVec >>> ((BitVec.ofNat 64 s) % 64#64) = _
    rw [BitVec.ushiftRight_eq']
    congr 1
    rw [BitVec.toNat_umod, BitVec.toNat_ofNat]
    show s % 2 ^ 64 % 64 = s
    omega
  have h2 : (v >>> Int64.ofNat s).toBitVec = v.toBitVec.sshiftRight s := by
    rw [Int64.toBitVec_shiftRight]
    show v.toBitVec.sshiftRight' ((BitVec.ofNat 64 s).smod 64#64) = _
    rw [BitVec.sshiftRight_eq']
    congr 1
    rcases Nat.lt_or_ge s 57 with q | q
    · have : ∀ t : Nat, t < 57 → ((BitVec.ofNat 64 t).smod 64#64).toNat = t := by decide
      exact this s q
    · omega
  rw [Int32.toBitVec_and, Int64.toBitVec_toInt32, Int64.toBitVec_toInt32, h1, Int64.toBitVec_and, h2, BitVec.signExtend_eq_setWidth_of_le _ (by decide), BitVec.signExtend_eq_setWidth_of_le _ (by decide)]
  exact by_one v.toBitVec s hs
theorem by_eq (v : Int64) (k : Nat) (hk : k < 8) : byC v (nI k) = byR v (nI k) := by
  refine by_cs v (nI k) (8 * k) (by omega) ?_ ?_
  · rcases (show k = 0 ∨ k = 1 ∨ k = 2 ∨ k = 3 ∨ k = 4 ∨ k = 5 ∨ k = 6 ∨ k = 7 by omega) with rfl | rfl | rfl | rfl | rfl | rfl | rfl | rfl <;> decide
  · rcases (show k = 0 ∨ k = 1 ∨ k = 2 ∨ k = 3 ∨ k = 4 ∨ k = 5 ∨ k = 6 ∨ k = 7 by omega) with rfl | rfl | rfl | rfl | rfl | rfl | rfl | rfl <;> decide
theorem and_255 (x : Int32) : inN (x &&& 255) 256 := by
  have h : (x &&& 255).toBitVec.toNat < 256 := by
    rw [Int32.toBitVec_and, BitVec.toNat_and]
    exact Nat.lt_succ_of_le Nat.and_le_right
  have e : (x &&& 255).toInt = ((x &&& 255).toBitVec.toNat : Int) := by
    show (x &&& 255).toBitVec.toInt = _
    rw [BitVec.toInt_eq_toNat_cond, if_pos (by omega)]
  exact inN_of (by omega) (by omega) (by omega)
theorem cntd3 {b : (xMem → Int64 → Int32 → Prop) → xMem → Int64 → Int32 → Prop} {M : xMem} {v : Int64} (n : Nat) (hn : n < 100000) (I : Nat → xMem → Prop) (h0 : I n M) (hz : ∀ r M, I 0 M → b r M v (-1)) (hs : ∀ (r : xMem → Int64 → Int32 → Prop) (k : Nat) (M : xMem), k < n → I (k + 1) M → (∀ M', I k M' → r M' v (nI k + (-1))) → b r M v (nI k)) : xlp3 b M v (nI n - 1) := by
  have ek : ∀ k, nI (k + 1) - 1 = nI k := fun k => by rw [← nI_1, Int32.add_sub_cancel]
  have e0 : nI 0 - (1 : Int32) = -1 := by decide
  have em : ∀ k, nI k - (1 : Int32) = nI k + (-1) := fun k => Int32.sub_eq_add_neg _ _
  refine xlp3_of (I := fun M v' p => v' = v ∧ ∃ k, k ≤ n ∧ p = nI k - 1 ∧ I k M) (mu := fun _ _ p => (p.toInt + 1).toNat) ?_ ⟨rfl, n, Nat.le_refl _, rfl, h0⟩
  intro r M v' p hI hr
  obtain ⟨rfl, k, hk, rfl, hI⟩ := hI
  match k, hk, hI, hr with
  | 0, hk, hI, hr =>
    rw [e0]
    exact hz r M hI
  | k + 1, hk, hI, hr =>
    rw [ek] at hr ⊢
    refine hs r k M hk hI (fun M' hI' => hr M' v' _ ⟨rfl, k, Nat.le_of_succ_le hk, (em k).symm, hI'⟩ ?_)
    show ((nI k + (-1)).toInt + 1).toNat < ((nI k).toInt + 1).toNat
    rw [← em, nI_sub1 (by omega), q_toI _ (by omega)]
    omega
def tI (R L c : Nat) (bf : Nat → Int32) (M0 : xMem) (a m : Nat) (M : xMem) : Prop := (∀ i, i ≠ R → i ≠ L → M.1 i = M0.1 i) ∧ (∀ k, k ≠ c → M.1 L k = M0.1 L k) ∧ M.2 = M0.2 ∧ M.1 L c = nI (a + m) ∧ (∀ k, k < a → M.1 R k = M0.1 R k) ∧ ∀ k, k < m → M.1 R (a + k) = bf k
theorem tI_0 {R L c : Nat} {bf : Nat → Int32} {M : xMem} {a : Nat} (e : M.1 L c = nI a) : tI R L c bf M a 0 M := ⟨fun _ _ _ => rfl, fun _ _ => rfl, rfl, e, fun _ _ => rfl, fun k hk => absurd hk (Nat.not_lt_zero _)⟩
theorem tI_S {R L c : Nat} {bf : Nat → Int32} {M0 M : xMem} {a m : Nat} {x y : Int32} (hRL : R ≠ L) (h : tI R L c bf M0 a m M) (ex : x = bf m) (ey : y = nI (a + (m + 1))) : tI R L c bf M0 a (m + 1) (xset (xset M R (a + m) x) L c y) := by
  obtain ⟨h1, h2, h3, h4, h5, h6⟩ := h
  refine ⟨fun i a1 a2 => ?_, fun k hk => ?_, h3, ?_, fun k hk => ?_, fun k hk => ?_⟩
  · rw [m_row _ _ _ a2, m_row _ _ _ a1]
    exact h1 i a1 a2
  · rw [m_col _ _ _ hk, m_row _ _ _ (Ne.symm hRL)]
    exact h2 k hk
  · rw [m_same, ey]
  · rw [m_row _ _ _ hRL, m_col _ _ _ (by omega)]
    exact h5 k hk
  · rw [m_row _ _ _ hRL]
    by_cases e : k = m
    · subst e
      rw [m_same, ex]
    · rw [m_col _ _ _ (by omega)]
      exact h6 k (by omega)
theorem c_app {v : Int64} {M : xMem} {K : Int32 → xMem → Prop} (a n : Nat) (ha : a + n ≤ 400) (e : M.1 2 1 = nI a) (hK : ∀ M', tI 3 2 1 (fun k => byC v (nI (n - 1 - k))) M a n M' → K (nI (a + n)) M') : xlp3 (b_X7_append_20 K) M v (nI n - 1) := by
  refine cntd3 n (by omega) (fun k M' => k ≤ n ∧ tI 3 2 1 (fun k => byC v (nI (n - 1 - k))) M a (n - k) M') ⟨Nat.le_refl _, by rw [Nat.sub_self]; exact tI_0 e⟩ (fun r M' hI => ?_) (fun r k M' hk hI hr => ?_)
  · unfold b_X7_append_20
    refine ⟨fun _ => ?_, fun q => absurd (by decide) q⟩
    have h4 := hI.2.2.2.2.1
    rw [Nat.sub_zero] at h4
    rw [h4]
    exact hK M' (by have := hI.2; rw [Nat.sub_zero] at this; exact this)
  · unfold b_X7_append_20
    have h4 : M'.1 2 1 = nI (a + (n - (k + 1))) := hI.2.2.2.2.1
    refine ⟨fun q => absurd ((q_lt _ _).mp q) (by rw [q_toI _ (by omega)]; show ¬ ((k : Int) < 0); omega), fun _ => ?_⟩
    rw [h4]
    refine ⟨vp_in_nI (by omega) (by omega), fun M3 e3 M4 e4 => ?_⟩
    rw [nI_clamp (by omega)] at e3
    refine hr M4 ⟨by omega, ?_⟩
    rw [e4, e3, show n - k = n - (k + 1) + 1 by omega]
    refine tI_S (R := 3) (L := 2) (by omega) hI.2 ?_ ?_
    · show byC v (nI k) = byC v _
      rw [show n - 1 - (n - (k + 1)) = k by omega]
    · show (xset M' 3 _ _).1 2 1 + 1 = _
      rw [m_row _ _ _ (by omega), h4, nI_1]
      rfl
theorem r_app {v : Int64} {M : xMem} {K : Int32 → xMem → Prop} (a n : Nat) (ha : a + n ≤ 400) (e : M.1 81 3 = nI a) (hK : ∀ M', tI 82 81 3 (fun k => byR v (nI (n - 1 - k))) M a n M' → K (nI (a + n)) M') : xlp3 (b_X9_type_37 K) M v (nI n - 1) := by
  refine cntd3 n (by omega) (fun k M' => k ≤ n ∧ tI 82 81 3 (fun k => byR v (nI (n - 1 - k))) M a (n - k) M') ⟨Nat.le_refl _, by rw [Nat.sub_self]; exact tI_0 e⟩ (fun r M' hI => ?_) (fun r k M' hk hI hr => ?_)
  · unfold b_X9_type_37
    refine ⟨fun _ => ?_, fun q => absurd (by decide) q⟩
    have h4 := hI.2.2.2.2.1
    rw [Nat.sub_zero] at h4
    rw [h4]
    exact hK M' (by have := hI.2; rw [Nat.sub_zero] at this; exact this)
  · unfold b_X9_type_37
    have h4 : M'.1 81 3 = nI (a + (n - (k + 1))) := hI.2.2.2.2.1
    refine ⟨fun q => absurd ((q_lt _ _).mp q) (by rw [q_toI _ (by omega)]; show ¬ ((k : Int) < 0); omega), fun _ => ?_⟩
    rw [h4]
    refine ⟨vp_in_nI (by omega) (by omega), fun M3 e3 M4 e4 => ?_⟩
    rw [nI_clamp (by omega)] at e3
    refine hr M4 ⟨by omega, ?_⟩
    rw [e4, e3, show n - k = n - (k + 1) + 1 by omega]
    refine tI_S (R := 82) (L := 81) (by omega) hI.2 ?_ ?_
    · show byR v (nI k) = byR v _
      rw [show n - 1 - (n - (k + 1)) = k by omega]
    · show (xset M' 82 _ _).1 81 3 + 1 = _
      rw [m_row _ _ _ (by omega), h4, nI_1]
      rfl
theorem inN_1 {x : Int32} {n : Nat} (hn : n < 1000000) (h1 : 1 ≤ x) (h2 : x ≤ nI n) : ∃ k, 1 ≤ k ∧ k ≤ n ∧ x = nI k := by
  rw [q_le] at h1 h2
  rw [q_toI _ (by omega)] at h2
  have h1' : 1 ≤ x.toInt := h1
  obtain ⟨k, hk, rfl⟩ := inN_of (x := x) (n := n + 1) (by omega) (by omega) (by omega)
  rw [q_toI _ (by omega)] at h1'
  exact ⟨k, by omega, by omega, rfl⟩
theorem P_type {M : xMem} (hR : RelE M) (a0 : Int64) (a1 : Int32) {K : Int32 → xMem → Prop} (hK : ∀ r M1, (∀ K2 : Int32 → xMem → Prop, (∀ M2, RelE M2 → K2 r M2) → w_X9_type M1 a0 a1 K2) → K r M1) : w_X8_type M a0 a1 K := by
  obtain ⟨h, d, w, hg, f, nw, nd, hR⟩ := hR
  obtain ⟨a, ha, t2, t81, tt⟩ := id hR.2.2.2.2.1
  have hthr : RelE (xset M 81 0 0) := ⟨h, d, w, hg, f, nw, nd, Rel_thr hR⟩
  have t81' : (xset M 81 0 0).1 81 3 = nI a := (m_col _ _ _ (by omega)).trans t81
  unfold w_X8_type
  refine u_within (fun h1 h2 => z_nf ?_) (fun q => z_nt (hK _ _ (fun K2 h2 => ?_)))
  · obtain ⟨n, n1, n2, rfl⟩ := inN_1 (n := 8) (by omega) h1 h2
    have c1 : nI n ≤ (400 : Int32) - nI a ↔ a + n ≤ 400 := by
      rw [q_le, q_toI _ (by omega), show (400 : Int32) = nI 400 from rfl, pk_sub_toInt (a := 400) (b := a) (by omega) (by omega)]
      omega
    have c2 : nI a + nI n ≤ (400 : Int32) ↔ a + n ≤ 400 := by
      rw [nI_add, q_le, q_toI _ (by omega), show (400 : Int32) = nI 400 from rfl, q_toI _ (by omega)]
      omega
    unfold w_X7_append
    rw [t2]
    refine ⟨fun q => ?_, fun q => hK _ _ (fun K2 h3 => ?_)⟩
    · have hs := c1.mp q
      refine c_app a n hs t2 (fun M' hT => hK _ _ (fun K2 h3 => ?_))
      unfold w_X9_type
      intro M1 e1
      subst e1
      have s81 : (xset M' 81 0 0).1 81 3 = nI a := by
        rw [m_col _ _ _ (by omega), hT.1 81 (by omega) (by omega)]
        exact t81
      refine u_in (fun _ _ => z_nf ?_) (fun q => absurd ⟨h1, h2⟩ q)
      rw [s81]
      refine ⟨fun _ => r_app a n hs s81 (fun M2 hU => h3 _ ?_), fun q => absurd (c2.mpr hs) q⟩
      obtain ⟨u1, u2, u3, u4, u5, u6⟩ := hT
      obtain ⟨v1, v2, v3, v4, v5, v6⟩ := hU
      have g : ∀ i, i ≠ 3 → i ≠ 2 → i ≠ 82 → i ≠ 81 → M2.1 i = M.1 i := fun i a1 a2 a3 a4 => by
        rw [v1 i a3 a4, m_row _ _ _ a4, u1 i a1 a2]
      have g81 : ∀ k, k ≠ 3 → k ≠ 0 → M2.1 81 k = M.1 81 k := fun k a1 a2 => by
        rw [v2 k a1, m_col _ _ _ a2, u1 81 (by omega) (by omega)]
      obtain ⟨r1, r2, r3, r4, r5, r6, r7, r8, r9, r10, r11, r12, r13⟩ := id hR
      refine ⟨h, d, w, hg, f, nw, nd, Rel_soft hR (fun i hi => g i (by omega) (by omega) (by omega) (by omega)) (fun k hk => g81 k (by omega) (by omega)) (fun k hk => by rw [g 83 (by omega) (by omega) (by omega) (by omega)]) ?_ ?_ (fun i hi => ?_) ?_⟩
      · refine ⟨a + n, hs, ?_, v4, fun i hi => ?_⟩
        · rw [v1 2 (by omega) (by omega), m_row _ _ _ (by omega)]
          exact u4
        · have e3 : M2.1 3 i = M'.1 3 i := by rw [v1 3 (by omega) (by omega), m_row _ _ _ (by omega)]
          by_cases hia : i < a
          · have e82 : M2.1 82 i = M.1 82 i := by rw [v5 i hia, m_row _ _ _ (by omega), u1 82 (by omega) (by omega)]
            rw [e3, u5 i hia, e82]
            exact tt i hia
          · have ei : i = a + (i - a) := by omega
            have e82 := v6 (i - a) (by omega)
            have e3' := u6 (i - a) (by omega)
            rw [← ei] at e82 e3'
            have ee : byC a0 (nI (n - 1 - (i - a))) = byR a0 (nI (n - 1 - (i - a))) := by_eq _ _ (by omega)
            rw [e3, e3', e82]
            refine ⟨ee, ?_⟩
            show inN (byR a0 (nI (n - 1 - (i - a)))) 256
            rw [← ee]
            exact and_255 _
      · rw [g 17 (by omega) (by omega) (by omega) (by omega), g 18 (by omega) (by omega) (by omega) (by omega), g 19 (by omega) (by omega) (by omega) (by omega), g 83 (by omega) (by omega) (by omega) (by omega)]
        exact r9
      · rw [g (21 + 7 * i) (by omega) (by omega) (by omega) (by omega), g (22 + 7 * i) (by omega) (by omega) (by omega) (by omega), g (23 + 7 * i) (by omega) (by omega) (by omega) (by omega), g (24 + 7 * i) (by omega) (by omega) (by omega) (by omega), g (25 + 7 * i) (by omega) (by omega) (by omega) (by omega), g (26 + 7 * i) (by omega) (by omega) (by omega) (by omega), g (27 + 7 * i) (by omega) (by omega) (by omega) (by omega), g 85 (by omega) (by omega) (by omega) (by omega), g 86 (by omega) (by omega) (by omega) (by omega)]
        exact r10 i hi
      · rw [v3, m_snd, u3]
        exact r13
    · unfold w_X9_type
      intro M1 e1
      subst e1
      refine u_in (fun _ _ => z_nf ?_) (fun q => absurd ⟨h1, h2⟩ q)
      rw [t81']
      exact ⟨fun q2 => absurd (c1.mpr (c2.mp q2)) q, fun _ => h3 _ hthr⟩
  · unfold w_X9_type
    intro M1 e1
    subst e1
    exact u_in (fun h3 h4 => absurd ⟨h3, h4⟩ q) (fun _ => z_nt (h2 _ hthr))
