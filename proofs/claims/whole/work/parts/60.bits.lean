/-! bits, hours that a deed holds in; deed -/
theorem nI_or {a b : Nat} (ha : a < 2 ^ 31) (hb : b < 2 ^ 31) : nI a ||| nI b = nI (a ||| b) := by
  apply Int32.toBitVec_inj.mp
  apply BitVec.eq_of_toNat_eq
  rw [Int32.toBitVec_or, BitVec.toNat_or]
  show (BitVec.ofNat 32 a).toNat ||| (BitVec.ofNat 32 b).toNat = (BitVec.ofNat 32 (a ||| b)).toNat
  have := Nat.or_lt_two_pow ha hb
  rw [BitVec.toNat_ofNat, BitVec.toNat_ofNat, BitVec.toNat_ofNat, Nat.mod_eq_of_lt (by omega), Nat.mod_eq_of_lt (by omega), Nat.mod_eq_of_lt (by omega)]
theorem nI_and {a b : Nat} (ha : a < 2 ^ 31) (hb : b < 2 ^ 31) : nI a &&& nI b = nI (a &&& b) := by
  apply Int32.toBitVec_inj.mp
  apply BitVec.eq_of_toNat_eq
  rw [Int32.toBitVec_and, BitVec.toNat_and]
  show (BitVec.ofNat 32 a).toNat &&& (BitVec.ofNat 32 b).toNat = (BitVec.ofNat 32 (a &&& b)).toNat
  have := Nat.and_lt_two_pow a hb
  rw [BitVec.toNat_ofNat, BitVec.toNat_ofNat, BitVec.toNat_ofNat, Nat.mod_eq_of_lt (by omega), Nat.mod_eq_of_lt (by omega), Nat.mod_eq_of_lt (by omega)]
theorem and_31 {k : Nat} (hk : k < 31) : nI k &&& (31 : Int32) = nI k := by
  rw [pk_andN (by omega) 5 (by decide), Nat.mod_eq_of_lt (by omega)]
theorem smod_k {k : Nat} (hk : k < 31) : ((nI k).toBitVec.smod 32).toNat = k := by
  have : ∀ t : Nat, t < 31 → ((nI t).toBitVec.smod 32).toNat = t := by decide
  exact this k hk
theorem bit_one {k : Nat} (hk : k < 31) : (1 : Int32) <<< (nI k &&& (31 : Int32)) = nI (2 ^ k) := by
  rw [and_31 hk]
  have h2 : 2 ^ k < 2 ^ 31 := Nat.pow_lt_pow_right (by decide) hk
  have := pk_shlN (n := 1) (nI k) k (smod_k hk) (by omega)
  rw [Nat.one_mul] at this
  exact this
theorem bit_get {x k : Nat} (hx : x < 2 ^ 31) (hk : k < 31) : (nI x >>> (nI k &&& (31 : Int32))) &&& (1 : Int32) = if x.testBit k = true then 1 else 0 := by
  rw [and_31 hk, pk_shrN hx (nI k) k (smod_k hk), pk_andN (Nat.lt_of_le_of_lt (Nat.div_le_self _ _) (by omega)) 1 (by decide)]
  by_cases h : x.testBit k = true
  · rw [if_pos h]
    rw [Nat.testBit_eq_decide_div_mod_eq, decide_eq_true_eq] at h
    rw [show 2 ^ 1 = 2 from rfl, h]
    rfl
  · rw [if_neg h]
    rw [Nat.testBit_eq_decide_div_mod_eq, decide_eq_true_eq] at h
    rw [show 2 ^ 1 = 2 from rfl, show x / 2 ^ k % 2 = 0 by omega]
    rfl
theorem bitsOf_get {x : Int32} {n : Nat} {P : Nat → Prop} (hn : n ≤ 31) (h : bitsOf x n P) {j : Nat} (hj : j < n) : (P j → (x >>> (nI j &&& (31 : Int32))) &&& (1 : Int32) = 1) ∧ (¬ P j → (x >>> (nI j &&& (31 : Int32))) &&& (1 : Int32) = 0) := by
  obtain ⟨k, h1, rfl, h3⟩ := h
  have hk : k < 2 ^ 31 := Nat.lt_of_lt_of_le h1 (Nat.pow_le_pow_right (by decide) hn)
  rw [bit_get hk (by omega)]
  exact ⟨fun q => if_pos ((h3 j hj).mpr q), fun q => if_neg (fun z => q ((h3 j hj).mp z))⟩
theorem bitsOf_uniq {x y : Int32} {n : Nat} {P : Nat → Prop} (h : bitsOf x n P) (h' : bitsOf y n P) : x = y := by
  obtain ⟨k, h1, rfl, h3⟩ := h
  obtain ⟨l, l1, rfl, l3⟩ := h'
  have : k = l := by
    apply Nat.eq_of_testBit_eq
    intro i
    by_cases hi : i < n
    · have a := h3 i hi
      have b := l3 i hi
      rw [← b] at a
      cases hk : k.testBit i <;> cases hl : l.testBit i <;> simp_all
    · have e1 : k.testBit i = false := Nat.testBit_lt_two_pow (Nat.lt_of_lt_of_le h1 (Nat.pow_le_pow_right (by decide) (Nat.le_of_not_lt hi)))
      have e2 : l.testBit i = false := Nat.testBit_lt_two_pow (Nat.lt_of_lt_of_le l1 (Nat.pow_le_pow_right (by decide) (Nat.le_of_not_lt hi)))
      rw [e1, e2]
  rw [this]
theorem bitsOf_0 {P : Nat → Prop} : bitsOf 0 0 P := ⟨0, by decide, rfl, fun j hj => absurd hj (Nat.not_lt_zero _)⟩
theorem bitsOf_set {x : Int32} {n : Nat} {P : Nat → Prop} (hn : n < 31) (h : bitsOf x n P) (hP : P n) : bitsOf (x ||| ((1 : Int32) <<< (nI n &&& (31 : Int32)))) (n + 1) P := by
  obtain ⟨k, h1, rfl, h3⟩ := h
  have h2 : 2 ^ n < 2 ^ 31 := Nat.pow_lt_pow_right (by decide) hn
  have h2' : 2 ^ (n + 1) = 2 ^ n + 2 ^ n := by rw [Nat.pow_succ]; omega
  refine ⟨k ||| 2 ^ n, Nat.or_lt_two_pow (by omega) (by have := Nat.two_pow_pos n; omega), by rw [bit_one hn, nI_or (by omega) h2], fun j hj => ?_⟩
  rw [Nat.testBit_or, Nat.testBit_two_pow]
  by_cases e : j = n
  · subst e
    simp [hP]
  · have := h3 j (by omega)
    have e2 : ¬ n = j := fun q => e q.symm
    simp [e2, this]
theorem bitsOf_skip {x : Int32} {n : Nat} {P : Nat → Prop} (h : bitsOf x n P) (hP : ¬ P n) : bitsOf x (n + 1) P := by
  obtain ⟨k, h1, rfl, h3⟩ := h
  have h2' : 2 ^ (n + 1) = 2 ^ n + 2 ^ n := by rw [Nat.pow_succ]; omega
  refine ⟨k, by omega, rfl, fun j hj => ?_⟩
  by_cases e : j = n
  · subst e
    rw [Nat.testBit_lt_two_pow h1]
    exact ⟨fun q => absurd q (by decide), fun q => absurd q hP⟩
  · exact h3 j (by omega)
theorem cnt5 {A B : Type} {b : (xMem → A → B → Int32 → Int32 → Prop) → xMem → A → B → Int32 → Int32 → Prop} {M : xMem} {p : A} {q : B} {x : Int32} (N : Nat) (hN : N < 100000) (I : Nat → Int32 → Prop) (h0 : I 0 x) (hs : ∀ (r : xMem → A → B → Int32 → Int32 → Prop) (k : Nat) (x : Int32), k ≤ N → I k x → (k < N → ∀ x', I (k + 1) x' → r M p q x' (nI (k + 1))) → b r M p q x (nI k)) : xlp5 b M p q x 0 := by
  refine xlp5_of (I := fun M' p' q' x c => M' = M ∧ p' = p ∧ q' = q ∧ ∃ k, k ≤ N ∧ I k x ∧ c = nI k) (mu := fun _ _ _ _ c => N - c.toNatClampNeg) ?_ ⟨rfl, rfl, rfl, 0, Nat.zero_le _, h0, rfl⟩
  intro r M' p' q' x c hI hr
  obtain ⟨rfl, rfl, rfl, k, hk, hx, rfl⟩ := hI
  refine hs r k x hk hx (fun hk2 x' hx' => hr _ _ _ _ _ ⟨rfl, rfl, rfl, k + 1, hk2, hx', rfl⟩ ?_)
  show N - (nI (k + 1)).toNatClampNeg < N - (nI k).toNatClampNeg
  rw [nI_clamp (by omega), nI_clamp (by omega)]
  omega
theorem nI_cond {n k : Nat} (hn : n < 2147483648) (hk : k < 2147483648) : (nI n ≤ nI k) ↔ n ≤ k := nI_leI hn hk
def dP (dd : Nat → Int32) (d hr k : Nat) : Prop := ((dd (5 * d + 1)).toInt ≤ hr ∧ (hr : Int) ≤ (dd (5 * d + 2)).toInt) ∧ ∀ e, e < k → ¬ (dd (5 * e) = dd (5 * d) ∧ (dd (5 * e + 1)).toInt ≤ hr ∧ (hr : Int) ≤ (dd (5 * e + 2)).toInt)
theorem v_holds {M : xMem} {d hr : Nat} (hd : d < 8) (hh : hr < 12) {post : Int32 → xMem → Prop} (h1 : dHold (M.1 88) d hr → post 1 M) (h0 : ¬ dHold (M.1 88) d hr → post 0 M) : w_X9_holds M (nI d) (nI hr) post := by
  have five : ∀ j, (5 : Int32) * nI j = nI (5 * j) := fun j => by rw [show (5 : Int32) = nI 5 from rfl, pk_mul]
  have five1 : ∀ j, nI (5 * j) + (1 : Int32) = nI (5 * j + 1) := fun j => nI_1 _
  have five2 : ∀ j, nI (5 * j) + (2 : Int32) = nI (5 * j + 2) := fun j => nI_add (5 * j) 2
  have lq : ∀ a b : Int32, (a ≤ nI hr ∧ nI hr ≤ b) ↔ (a.toInt ≤ hr ∧ (hr : Int) ≤ b.toInt) := fun a b => by rw [q_le, q_le, q_toI _ (by omega)]
  unfold w_X9_holds
  rw [five, five1, five2, nI_clamp (by omega), nI_clamp (by omega)]
  refine ⟨vp_in_nI (by omega) (by omega), vp_in_nI (by omega) (by omega), ?_⟩
  have loop : ∀ z : Int32, ((z = 1 ∧ dP (M.1 88) d hr 0) ∨ (z = 0 ∧ ¬ dP (M.1 88) d hr 0)) → xlp5 (b_X9_holds_28 post) M (nI d) (nI hr) z 0 := by
    intro z hz
    refine cnt5 d (by omega) (fun k x => (x = 1 ∧ dP (M.1 88) d hr k) ∨ (x = 0 ∧ ¬ dP (M.1 88) d hr k)) hz (fun r k x hk hx hr' => ?_)
    unfold b_X9_holds_28
    refine ⟨fun q => ?_, fun q => ?_⟩
    · have e : k = d := Nat.le_antisymm hk ((nI_cond (by omega) (by omega)).mp q)
      subst e
      rcases hx with ⟨rfl, hp⟩ | ⟨rfl, hp⟩
      · exact ⟨Or.inr rfl, h1 hp⟩
      · exact ⟨Or.inl rfl, h0 hp⟩
    · have hl : k < d := Nat.lt_of_not_le (fun q2 => q ((nI_cond (by omega) (by omega)).mpr q2))
      have down : ¬ dP (M.1 88) d hr k → ¬ dP (M.1 88) d hr (k + 1) := fun a b => a ⟨b.1, fun e he => b.2 e (Nat.lt_succ_of_lt he)⟩
      have n0 := hr' hl
      have s0 : ¬ dP (M.1 88) d hr (k + 1) → b_X9_holds_91 post r M (nI d) (nI hr) (nI k) := fun a => by
        unfold b_X9_holds_91 b_X9_holds_92
        rw [nI_1]
        exact n0 0 (Or.inr ⟨rfl, a⟩)
      have s1 : dP (M.1 88) d hr (k + 1) → b_X9_holds_87 post r M (nI d) (nI hr) (nI k) := fun a => by
        unfold b_X9_holds_87 b_X9_holds_92
        rw [nI_1]
        exact n0 1 (Or.inl ⟨rfl, a⟩)
      refine ⟨fun e => ?_, fun ne => ?_⟩
      · rcases hx with ⟨rfl, hp⟩ | ⟨_, hp⟩
        · exact absurd e (by decide)
        · exact s0 (down hp)
      · rcases hx with ⟨_, hp⟩ | ⟨e, hp⟩
        · rw [five, five, nI_clamp (by omega), nI_clamp (by omega), five1, five2, nI_clamp (by omega), nI_clamp (by omega)]
          have up : ¬ (M.1 88 (5 * k) = M.1 88 (5 * d) ∧ (M.1 88 (5 * k + 1)).toInt ≤ hr ∧ (hr : Int) ≤ (M.1 88 (5 * k + 2)).toInt) → dP (M.1 88) d hr (k + 1) := fun a => ⟨hp.1, fun e he => if e' : e = k then e' ▸ a else hp.2 e (by omega)⟩
          refine ⟨vp_in_nI (by omega) (by omega), vp_in_nI (by omega) (by omega), fun n => s1 (up (fun a => n a.1)), fun y => ⟨vp_in_nI (by omega) (by omega), vp_in_nI (by omega) (by omega), ?_⟩⟩
          refine u_in (fun a b => ⟨fun _ => s0 (fun z => z.2 k (Nat.lt_succ_self k) ⟨y, (lq _ _).mp ⟨a, b⟩⟩), fun q => absurd q (by decide)⟩) (fun a => ⟨fun q => absurd rfl q, fun _ => s1 (up (fun z => a ((lq _ _).mpr z.2)))⟩)
        · exact absurd e ne
  refine u_in (fun a b => loop 1 (Or.inl ⟨rfl, (lq _ _).mp ⟨a, b⟩, fun e he => absurd he (Nat.not_lt_zero _)⟩)) (fun a => loop 0 (Or.inr ⟨rfl, fun z => a ((lq _ _).mpr z.1)⟩))
theorem P_deed {M : xMem} (hR : RelE M) (a0 : Int32) (a1 : Int32) {K : Int32 → xMem → Prop} (hK : ∀ r M1, (∀ K2 : Int32 → xMem → Prop, (∀ M2, RelE M2 → K2 r M2) → w_X9_deed M1 a0 a1 K2) → K r M1) : w_X8_deed M a0 a1 K := by
  obtain ⟨h, d, w, hg, f, nw, nd, hR⟩ := hR
  obtain ⟨hh, e5, hk⟩ := Rel_h hR
  obtain ⟨r1, r2, r3, r4, r5, r6, r7, r8, r9, r10, r11, r12, r13⟩ := id hR
  have hnd : nd ≤ 8 := r3.2.2.2.2
  have hthr : RelE (xset M 81 0 0) := ⟨h, d, w, hg, f, nw, nd, Rel_thr hR⟩
  have e21 : (xset M 81 0 0).1 81 21 = nI nd := (m_col _ _ _ (by omega)).trans r4.2.2.2.2.1
  have e88 : (xset M 81 0 0).1 88 = M.1 88 := m_row _ _ _ (by omega)
  have vD : ∀ {p : Int32} {post : Int32 → xMem → Prop}, (inN p nd → post 1 (xset M 81 0 0)) → (¬ inN p nd → post 0 (xset M 81 0 0)) → w_X9_in (xset M 81 0 0) p 0 ((xset M 81 0 0).1 81 21 - 1) post := fun {p} {post} a b => by
    rw [e21]
    exact u_in (fun x y => a ((inN_iff2 (by omega)).mpr ⟨x, y⟩)) (fun q => b (fun z => q ((inN_iff2 (by omega)).mp z)))
  unfold w_X8_deed
  rw [e5]
  refine u_isDeed hk r7.1.2.2.2 (by omega) (fun hin => z_f ?_) (fun hin => z_t ?_)
  · refine u_rng 5 6 rfl (by omega) rfl (fun hin2 => z_nf ?_) (fun hin2 => z_nt ?_)
    · obtain ⟨i, hi, rfl⟩ := id hin
      obtain ⟨k, hk2, rfl⟩ := id hin2
      rw [e5]
      refine ⟨hk, vp_in_nI (by omega) (by omega), vp_in_nI (by omega) (by omega), ?_⟩
      rw [nI_clamp (by omega), nI_clamp (by omega)]
      refine hK _ _ (fun K2 h2 => ?_)
      unfold w_X9_deed
      intro M1 e1
      subst e1
      refine vD (fun _ => z_f ?_) (fun q => absurd hin q)
      refine v_rng 5 6 rfl (by omega) rfl (fun _ => z_nf ?_) (fun q => absurd hin2 q)
      refine cnt5 12 (by omega) (fun j x => bitsOf x j (fun h => dHold (M.1 88) i h)) bitsOf_0 (fun r j x hj hx hr => ?_)
      unfold b_X9_deed_35
      refine ⟨fun q => ?_, fun q => ?_⟩
      · have e : j = 12 := Nat.le_antisymm hj ((li_le (n := 12) (by omega) (by decide)).mp q)
        subst e
        refine ⟨fun q => ?_, fun q => ?_⟩
        · have e : k = 5 := by
            have := (li_le (k := k) (n := 5) (by omega) (by decide)).mp q
            omega
          subst e
          have e : M.1 (h + 11 + 1 + i) 5 = x := bitsOf_uniq (show bitsOf (M.1 (h + 11 + 1 + i) 5) 12 _ from by
            rw [show h + 11 + 1 + i = h + (12 + i) by omega]
            exact r7.2.2.2.2.1 i hi) hx
          rw [e] at h2
          exact h2 _ hthr
        · have hk5 : k < 5 := Nat.lt_of_not_le (fun q2 => q ((li_le (by omega) (by decide)).mpr q2))
          have ea : (5 : Int32) * nI i + nI k = nI (5 * i + k) := by rw [show (5 : Int32) = nI 5 from rfl, pk_mul, nI_add]
          rw [ea, nI_clamp (by omega)]
          refine ⟨vp_in_nI (by omega) (by omega), ?_⟩
          have e : M.1 (h + 11 + 1 + i) k = M.1 88 (5 * i + k) := by
            rw [show h + 11 + 1 + i = h + (12 + i) by omega]
            exact r7.2.2.1 i k hi hk5
          show K2 ((xset M 81 0 0).1 88 (5 * i + k)) _
          rw [e88, ← e]
          exact h2 _ hthr
      · have hl : j < 12 := Nat.lt_of_not_le (fun q2 => q ((li_le (by omega) (by decide)).mpr q2))
        refine v_holds (by omega) hl (fun hH => ?_) (fun hH => ?_)
        · rw [e88] at hH
          refine z_f ?_
          unfold b_X9_deed_61
          rw [nI_1]
          exact hr hl _ (bitsOf_set (by omega) hx hH)
        · rw [e88] at hH
          refine z_t ?_
          unfold b_X9_deed_61
          rw [nI_1, Int32.or_zero]
          exact hr hl _ (bitsOf_skip hx hH)
    · refine hK _ _ (fun K2 h2 => ?_)
      unfold w_X9_deed
      intro M1 e1
      subst e1
      refine vD (fun _ => z_f ?_) (fun q => absurd hin q)
      exact v_rng 5 6 rfl (by omega) rfl (fun q => absurd q hin2) (fun _ => z_nt (h2 _ hthr))
  · refine hK _ _ (fun K2 h2 => ?_)
    unfold w_X9_deed
    intro M1 e1
    subst e1
    exact vD (fun q => absurd q hin) (fun _ => z_t (h2 _ hthr))
