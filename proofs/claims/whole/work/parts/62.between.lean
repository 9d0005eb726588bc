/-! between two yards -/
def loN (a b : Nat) : Nat := if a < b then a else b
def hiN (a b : Nat) : Nat := if a < b then b else a
theorem nb_iff {w a b : Nat} (hw : 1 ≤ w) : nbE w a b ↔ hiN a b = loN a b + w ∨ (hiN a b = loN a b + 1 ∧ loN a b % w < w - 1) := by
  unfold nbE hiN loN
  by_cases h : a < b
  · rw [if_pos h, if_pos h]
    constructor
    · rintro ((e | e) | e | e)
      · exact Or.inl e
      · omega
      · exact Or.inr e
      · omega
    · rintro (e | e)
      · exact Or.inl (Or.inl e)
      · exact Or.inr (Or.inl e)
  · rw [if_neg h, if_neg h]
    constructor
    · rintro ((e | e) | e | e)
      · omega
      · exact Or.inl e
      · omega
      · exact Or.inr e
    · rintro (e | e)
      · exact Or.inl (Or.inr e)
      · exact Or.inr (Or.inr e)
theorem nbAl_iff {w a b : Nat} (hw : 1 ≤ w) : nbAl w a b = true ↔ hiN a b = loN a b + w := by
  unfold nbAl hiN loN
  rw [Bool.or_eq_true, decide_eq_true_eq, decide_eq_true_eq]
  by_cases h : a < b
  · rw [if_pos h, if_pos h]
    omega
  · rw [if_neg h, if_neg h]
    omega
theorem nI_n9' {n : Nat} (h : n < 1000000) : (-9 : Int32) ≠ nI n := fun e => nI_n9 h e.symm
/-- beyond a border -/
theorem u_bey0 {M : xMem} {h w hg k : Nat} {post : Int32 → xMem → Prop} (hk : kd h = 2) (e0 : M.1 h 0 = nI w) (e1 : M.1 h 1 = nI hg) (hw : 1 ≤ w) (hn : w * hg ≤ 48) (hkn : k < w * hg) (h1 : (k + 1) % w ≠ 0 → post (nI (k + 1)) M) (h0 : (k + 1) % w = 0 → post (-9) M) : w_X2_beyond M h (nI (2 * k)) post := by
  have hw2 : w ≤ 48 := by
    rcases Nat.eq_zero_or_pos hg with e | e
    · rw [e, Nat.mul_zero] at hkn
      omega
    · exact Nat.le_trans (Nat.le_mul_of_pos_right w e) hn
  have d2 : nI (2 * k) / (2 : Int32) = nI k := by
    rw [show (2 : Int32) = nI 2 from rfl, pk_div (by omega) (by omega) (by omega), Nat.mul_div_cancel_left _ (by omega)]
  have m2 : nI (2 * k) - nI k * (2 : Int32) = 0 := by
    rw [show (2 : Int32) = nI 2 from rfl, pk_mul, Nat.mul_comm k 2, Int32.sub_self]
  unfold w_X2_beyond
  rw [d2, m2]
  refine ⟨hk, fun q => absurd q (nI_pos (by omega)), fun _ => ?_⟩
  refine u_isYard hk e0 e1 (by omega) (fun _ => z_f ⟨fun _ => ⟨fun q => absurd rfl q, fun _ => ?_⟩, fun q => absurd ?_ q⟩) (fun q => absurd ⟨k, hkn, rfl⟩ q)
  · rw [e0, nI_1, pk_rem (by omega) (by omega) (by omega)]
    refine ⟨fun q => ?_, fun q => h1 (fun z => q (by rw [z]; rfl)), fun q => h0 ((nI_eq (b := 0) (by have := Nat.mod_lt (k + 1) (show 0 < w by omega); omega) (by omega)).mp q)⟩
    have := (nI_eq (a := w) (b := 0) (by omega) (by omega)).mp q
    omega
  · rw [e0]
    exact (nI_leI (a := 1) (by omega) (by omega)).mpr hw
theorem u_bey1 {M : xMem} {h w hg k : Nat} {post : Int32 → xMem → Prop} (hk : kd h = 2) (e0 : M.1 h 0 = nI w) (e1 : M.1 h 1 = nI hg) (hw : 1 ≤ w) (hn : w * hg ≤ 48) (hkn : k < w * hg) (h1 : k + w < w * hg → post (nI (k + w)) M) (h0 : ¬ k + w < w * hg → post (-9) M) : w_X2_beyond M h (nI (2 * k + 1)) post := by
  have hw2 : w ≤ 48 := by
    rcases Nat.eq_zero_or_pos hg with e | e
    · rw [e, Nat.mul_zero] at hkn
      omega
    · exact Nat.le_trans (Nat.le_mul_of_pos_right w e) hn
  have d2 : nI (2 * k + 1) / (2 : Int32) = nI k := by
    rw [show (2 : Int32) = nI 2 from rfl, pk_div (by omega) (by omega) (by omega), show (2 * k + 1) / 2 = k by omega]
  have m2 : nI (2 * k + 1) - nI k * (2 : Int32) = 1 := by
    rw [show (2 : Int32) = nI 2 from rfl, pk_mul, pk_sub (by omega), show 2 * k + 1 - k * 2 = 1 by omega]
    rfl
  unfold w_X2_beyond
  rw [d2, m2]
  refine ⟨hk, fun q => absurd q (nI_pos (by omega)), fun _ => ?_⟩
  refine u_isYard hk e0 e1 (by omega) (fun _ => z_f ⟨fun _ => ⟨fun _ => ?_, fun q => absurd q (by decide)⟩, fun q => absurd ?_ q⟩) (fun q => absurd ⟨k, hkn, rfl⟩ q)
  · rw [e0, nI_add]
    refine u_isYard hk e0 e1 (by omega) (fun a => z_f ?_) (fun a => z_t (h0 (fun z => a ⟨k + w, z, rfl⟩)))
    obtain ⟨j, j1, j2⟩ := a
    have := q_inj (a := k + w) (b := j) (by omega) (by omega) j2
    show post (nI k + M.1 h 0) M
    rw [e0, nI_add]
    exact h1 (by omega)
  · rw [e0]
    exact (nI_leI (a := 1) (by omega) (by omega)).mpr hw
theorem mod_one {w k : Nat} (hw : 1 ≤ w) : (k + 1) % w = 0 ↔ ¬ k % w < w - 1 := by
  have h1 := Nat.mod_lt k (show 0 < w by omega)
  have h2 := Nat.div_add_mod k w
  constructor
  · intro h h3
    have : (k + 1) % w = k % w + 1 := by
      have e : k + 1 = (k % w + 1) + w * (k / w) := by omega
      rw [e, Nat.add_mul_mod_self_left, Nat.mod_eq_of_lt (by omega)]
    omega
  · intro h
    have e : k + 1 = w * (k / w + 1) := by
      rw [Nat.mul_add, Nat.mul_one]
      omega
    rw [e, Nat.mul_mod_right]
theorem minI {a b : Nat} (ha : a < 1000) (hb : b < 1000) : (if nI b < nI a then nI b else nI a) = nI (loN a b) := by
  unfold loN
  by_cases h : a < b
  · rw [if_pos h, if_neg (fun q => by have := (nI_ltI (by omega) (by omega)).mp q; omega)]
  · rw [if_neg h]
    by_cases e : a = b
    · subst e
      rw [ite_self]
    · rw [if_pos ((nI_ltI (by omega) (by omega)).mpr (by omega))]
theorem maxI {a b : Nat} (ha : a < 1000) (hb : b < 1000) : (if nI a < nI b then nI b else nI a) = nI (hiN a b) := by
  unfold hiN
  by_cases h : a < b
  · rw [if_pos h, if_pos ((nI_ltI (by omega) (by omega)).mpr h)]
  · rw [if_neg h, if_neg (fun q => h ((nI_ltI (by omega) (by omega)).mp q))]
theorem lo_lt {a b n : Nat} (ha : a < n) (hb : b < n) : loN a b < n ∧ hiN a b < n ∧ loN a b ≤ hiN a b := by
  unfold loN hiN
  by_cases h : a < b
  · rw [if_pos h, if_pos h]
    omega
  · rw [if_neg h, if_neg h]
    omega
theorem u_borderOf {M : xMem} {h w hg : Nat} {p1 p2 : Int32} {post : Int32 → xMem → Prop} (hk : kd h = 2) (e0 : M.1 h 0 = nI w) (e1 : M.1 h 1 = nI hg) (hw : 1 ≤ w) (hn : w * hg ≤ 48) (hA : ∀ a b, a < w * hg → b < w * hg → p1 = nI a → p2 = nI b → nbE w a b → post (nI (2 * loN a b + if nbAl w a b = true then 1 else 0)) M) (hN : (∀ a b, a < w * hg → b < w * hg → p1 = nI a → p2 = nI b → ¬ nbE w a b) → post (-9) M) : w_X2_borderOf M h p1 p2 post := by
  unfold w_X2_borderOf
  refine ⟨hk, ?_⟩
  refine u_isYard hk e0 e1 (by omega) (fun i1 => z_f ?_) (fun i1 => z_t (hN (fun a b ha hb ea eb => absurd ⟨a, ha, ea⟩ i1)))
  refine u_isYard hk e0 e1 (by omega) (fun i2 => z_nf ?_) (fun i2 => z_nt (hN (fun a b ha hb ea eb => absurd ⟨b, hb, eb⟩ i2)))
  obtain ⟨a, ha, rfl⟩ := i1
  obtain ⟨b, hb, rfl⟩ := i2
  obtain ⟨l1, l2, l3⟩ := lo_lt ha hb
  have two : (2 : Int32) * nI (loN a b) = nI (2 * loN a b) := by rw [show (2 : Int32) = nI 2 from rfl, pk_mul]
  rw [minI (by omega) (by omega), maxI (by omega) (by omega), two, nI_1]
  have no : ¬ nbE w a b → post (-9) M := fun q => hN (fun a' b' ha' hb' ea eb => by
    have e1 := q_inj (a := a) (b := a') (by omega) (by omega) ea
    have e2 := q_inj (a := b) (b := b') (by omega) (by omega) eb
    rw [← e1, ← e2]
    exact q)
  have yes : nbE w a b → post (nI (2 * loN a b + if nbAl w a b = true then 1 else 0)) M := hA a b ha hb rfl rfl
  have second : ¬ (hiN a b = loN a b + 1 ∧ loN a b % w < w - 1) → w_X2_beyond M h (nI (2 * loN a b + 1)) (fun z10 M11 => ((¬ z10 = nI (hiN a b)) → (post (-9 : Int32) M11)) ∧ ((z10 = nI (hiN a b)) → (post (nI (2 * loN a b + 1)) M11))) := fun q => by
    refine u_bey1 hk e0 e1 hw hn l1 (fun a1 => ⟨fun n => no (fun z => ?_), fun y => ?_⟩) (fun a1 => ⟨fun _ => no (fun z => ?_), fun y => absurd y (nI_n9' (by omega))⟩)
    · rcases (nb_iff hw).mp z with e | e
      · exact n (by rw [e])
      · exact q e
    · have ee : loN a b + w = hiN a b := q_inj (by omega) (by omega) y
      have := yes ((nb_iff hw).mpr (Or.inl ee.symm))
      rw [if_pos ((nbAl_iff hw).mpr ee.symm)] at this
      exact this
    · rcases (nb_iff hw).mp z with e | e
      · omega
      · exact q e
  refine u_bey0 hk e0 e1 hw hn l1 (fun a1 => ⟨fun n => second (fun z => n (by rw [z.1])), fun y => ?_⟩) (fun a1 => ⟨fun _ => second (fun z => (mod_one hw).mp a1 z.2), fun y => absurd y (nI_n9' (by omega))⟩)
  have ee : loN a b + 1 = hiN a b := q_inj (by omega) (by omega) y
  have lt : loN a b % w < w - 1 := Classical.byContradiction (fun z => a1 ((mod_one hw).mpr z))
  have := yes ((nb_iff hw).mpr (Or.inr ⟨ee.symm, lt⟩))
  rw [if_neg (fun z => ?_)] at this
  · exact this
  · have := (nbAl_iff hw).mp z
    have : w = 1 := by omega
    omega
/-- the reference's -/
theorem v_lesser {M : xMem} {a b : Nat} (ha : a < 1000) (hb : b < 1000) {post : Int32 → xMem → Prop} (h : post (nI (loN a b)) M) : w_X9_lesser M (nI a) (nI b) post := by
  unfold w_X9_lesser
  unfold loN at h
  refine ⟨fun q => ?_, fun q => ?_⟩
  · have := (nI_leI (by omega) (by omega)).mp q
    rw [if_neg (by omega)] at h
    exact h
  · have : a < b := Nat.lt_of_not_le (fun z => q ((nI_leI (by omega) (by omega)).mpr z))
    rw [if_pos this] at h
    exact h
theorem gap {a b : Nat} : nI a + nI b - (2 : Int32) * nI (loN a b) = nI (hiN a b - loN a b) := by
  rw [show (2 : Int32) = nI 2 from rfl, pk_mul, nI_add]
  unfold hiN loN
  by_cases h : a < b
  · rw [if_pos h, if_pos h, pk_sub (by omega), show a + b - 2 * a = b - a by omega]
  · rw [if_neg h, if_neg h, pk_sub (by omega), show a + b - 2 * b = a - b by omega]
theorem v_areBeside {M : xMem} {w a b : Nat} (hw : 1 ≤ w) (hw2 : w ≤ 8) (ha : a < 48) (hb : b < 48) {post : Int32 → xMem → Prop} (h1 : nbE w a b → post 1 M) (h0 : ¬ nbE w a b → post 0 M) : w_X9_areBeside M (nI a) (nI b) (nI w) post := by
  obtain ⟨l1, l2, l3⟩ := lo_lt ha hb
  have hm := Nat.mod_lt (loN a b) (show 0 < w by omega)
  unfold w_X9_areBeside b_X9_areBeside_36
  refine v_lesser (by omega) (by omega) ?_
  rw [gap]
  refine ⟨fun q => h1 ((nb_iff hw).mpr (Or.inl ?_)), fun q => ⟨fun q2 => h0 (fun z => ?_), fun q2 => ⟨fun z => ?_, ?_⟩⟩⟩
  · have := q_inj (a := hiN a b - loN a b) (b := w) (by omega) (by omega) q
    omega
  · rcases (nb_iff hw).mp z with e | e
    · exact q (by rw [show hiN a b - loN a b = w by omega])
    · exact q2 (by rw [show hiN a b - loN a b = 1 by omega]; rfl)
  · have := q_inj (a := w) (b := 0) (by omega) (by omega) z
    omega
  · have e1 : hiN a b - loN a b = 1 := q_inj (a := hiN a b - loN a b) (b := 1) (by omega) (by omega) q2
    have c : (nI w - (1 : Int32) ≤ nI (loN a b) - nI (loN a b) / nI w * nI w) ↔ ¬ loN a b % w < w - 1 := by
      rw [pk_rem (by omega) (by omega) (by omega), show (1 : Int32) = nI 1 from rfl, pk_sub hw, nI_leI (by omega) (by omega)]
      omega
    refine ⟨fun z => h0 (fun y => ?_), fun z => h1 ((nb_iff hw).mpr (Or.inr ⟨by omega, Classical.byContradiction (fun y => z (c.mpr y))⟩))⟩
    rcases (nb_iff hw).mp y with e | e
    · exact q (by rw [show hiN a b - loN a b = w by omega])
    · exact c.mp z e.2
theorem v_spotOf {M : xMem} {w a b o : Nat} (hw : 1 ≤ w) (hw2 : w ≤ 8) (ha : a < 48) (hb : b < 48) (hn : nbE w a b) {post : Int32 → xMem → Prop} (h : post (nI (o + (loN a b + if nbAl w a b = true then 48 else 0))) M) : w_X9_spotOf M (nI a) (nI b) (nI w) (nI o) post := by
  obtain ⟨l1, l2, l3⟩ := lo_lt ha hb
  unfold w_X9_spotOf b_X9_spotOf_28 b_X9_spotOf_33
  refine v_lesser (by omega) (by omega) ?_
  have a48 : nI o + nI (loN a b) + (48 : Int32) = nI (o + (loN a b + 48)) := by
    rw [nI_add, show (48 : Int32) = nI 48 from rfl, nI_add, Nat.add_assoc]
  have a00 : nI o + nI (loN a b) + (0 : Int32) = nI (o + (loN a b + 0)) := by
    rw [nI_add, Int32.add_zero, Nat.add_zero]
  rw [gap, a48, a00]
  by_cases al : nbAl w a b = true
  · rw [if_pos al] at h
    have e := (nbAl_iff hw).mp al
    refine ⟨fun q => absurd (by rw [show hiN a b - loN a b = w by omega]) q, fun _ => ⟨fun _ => h, fun q => ⟨fun q2 => ?_, fun _ => h⟩⟩⟩
    exact absurd (by
      have : ¬ 1 < w := fun z => q ((nI_ltI (a := 1) (by omega) (by omega)).mpr z)
      rw [show w = 1 by omega]
      rfl) q2
  · rw [if_neg al] at h
    have ne : ¬ hiN a b = loN a b + w := fun z => al ((nbAl_iff hw).mpr z)
    refine ⟨fun q => ⟨fun _ => h, fun q2 => ?_⟩, fun q => ?_⟩
    · have w1 : w = 1 := q_inj (a := w) (b := 1) (by omega) (by omega) q2
      rcases (nb_iff hw).mp hn with e | e
      · exact absurd e ne
      · omega
    · have := q_inj (a := hiN a b - loN a b) (b := w) (by omega) (by omega) q
      omega
theorem v_near {M : xMem} {p1 p2 : Int32} {w hg : Nat} (e0 : M.1 81 9 = nI w) (e1 : M.1 81 10 = nI hg) (hw : 1 ≤ w) (hw2 : w ≤ 8) (hn : w * hg ≤ 48) {post : Int32 → xMem → Prop} (hA : ∀ a b, a < w * hg → b < w * hg → p1 = nI a → p2 = nI b → nbE w a b → post 1 M) (hN : (∀ a b, a < w * hg → b < w * hg → p1 = nI a → p2 = nI b → ¬ nbE w a b) → post 0 M) : w_X9_areNeighbours M p1 p2 post := by
  unfold w_X9_areNeighbours
  refine v_isYard e0 e1 (by omega) (fun i1 => z_f ?_) (fun i1 => z_t (hN (fun a b ha hb ea eb => absurd ⟨a, ha, ea⟩ i1)))
  refine v_isYard e0 e1 (by omega) (fun i2 => z_f ?_) (fun i2 => z_t (hN (fun a b ha hb ea eb => absurd ⟨b, hb, eb⟩ i2)))
  obtain ⟨a, ha, rfl⟩ := i1
  obtain ⟨b, hb, rfl⟩ := i2
  rw [e0]
  refine v_areBeside hw hw2 (by omega) (by omega) (fun q => z_f (hA a b ha hb rfl rfl q)) (fun q => z_t (hN (fun a' b' ha' hb' ea eb => ?_)))
  have e1 := q_inj (a := a) (b := a') (by omega) (by omega) ea
  have e2 := q_inj (a := b) (b := b') (by omega) (by omega) eb
  rw [← e1, ← e2]
  exact q
/-- a place of the class's ground and of the reference's row -/
theorem rG_at {wl ft : Nat → Int32} {gr gd : Int32} {s : Nat → Int32} (hG : rG wl ft gr gd s) {k : Nat} {al : Bool} (hk : k < 48) : wl (2 * k + if al = true then 1 else 0) = s (k + if al = true then 48 else 0) ∧ ft (2 * k + if al = true then 1 else 0) = s (96 + (k + if al = true then 48 else 0)) := by
  obtain ⟨g1, g2, _⟩ := hG
  cases al
  · exact ⟨(g1 k hk).1, (g2 k hk).1⟩
  · refine ⟨?_, ?_⟩
    · show wl (2 * k + 1) = s (k + 48)
      rw [(g1 k hk).2, Nat.add_comm]
    · show ft (2 * k + 1) = s (96 + (k + 48))
      rw [(g2 k hk).2, show 96 + (k + 48) = 144 + k by omega]
theorem P_between {M : xMem} (hR : RelE M) (a0 : Int32) (a1 : Int32) (a2 : Int32) {K : Int32 → xMem → Prop} (hK : ∀ r M1, (∀ K2 : Int32 → xMem → Prop, (∀ M2, RelE M2 → K2 r M2) → w_X9_between M1 a0 a1 a2 K2) → K r M1) : w_X8_between M a0 a1 a2 K := by
  obtain ⟨h, d, w, hg, f, nw, nd, hR⟩ := hR
  obtain ⟨hh, e5, hk⟩ := Rel_h hR
  obtain ⟨r1, r2, r3, r4, r5, r6, r7, r8, r9, r10, r11, r12, r13⟩ := id hR
  have hb := (rB_bounds r3).2
  have hw := r3.1.1
  have hw2 := r3.1.2
  have hthr : RelE (xset M 81 0 0) := ⟨h, d, w, hg, f, nw, nd, Rel_thr hR⟩
  have e9 : (xset M 81 0 0).1 81 9 = nI w := (m_col _ _ _ (by omega)).trans r4.1
  have e10 : (xset M 81 0 0).1 81 10 = nI hg := (m_col _ _ _ (by omega)).trans r4.2.1
  have e83 : (xset M 81 0 0).1 83 = M.1 83 := m_row _ _ _ (by omega)
  unfold w_X8_between
  rw [e5]
  refine u_borderOf hk r7.1.1 r7.1.2.1 hw hb (fun a b ha hb' ea eb hn => ?_) (fun no => ⟨fun _ => hK _ _ (fun K2 h2 => ?_), fun q => absurd (by decide) q⟩)
  · obtain ⟨l1, l2, l3⟩ := lo_lt ha hb'
    have hz : (2 * loN a b + if nbAl w a b = true then 1 else 0) < 96 := by split <;> omega
    refine ⟨fun q => absurd q (nI_pos (by omega)), fun _ => ?_⟩
    have near : ∀ {post : Int32 → xMem → Prop}, post 1 (xset M 81 0 0) → w_X9_areNeighbours (xset M 81 0 0) a0 a1 post := fun hp => v_near e9 e10 hw hw2 hb (fun _ _ _ _ _ _ _ => hp) (fun q => absurd hn (q a b ha hb' ea eb))
    refine u_isBit (fun i2 => z_nf ?_) (fun i2 => z_nt (hK _ _ (fun K2 h2 => ?_)))
    · rw [e5]
      refine ⟨hk, ?_⟩
      unfold w_X0_rowOf
      have kh : kd (h + 1) = 0 := by rcases hh with rfl | rfl <;> decide
      have k2 : kd (h + 1 + 1) = 10 ∧ ln (h + 1 + 1) = 96 := by rcases hh with rfl | rfl <;> decide
      have k3 : kd (h + 1 + 2) = 10 ∧ ln (h + 1 + 2) = 96 := by rcases hh with rfl | rfl <;> decide
      obtain ⟨g1, g2⟩ := rG_at (al := nbAl w a b) r8 (show loN a b < 48 by omega)
      have go : ∀ (o : Nat) x, (a2 = 0 ∧ o = 0 ∨ ¬ a2 = 0 ∧ o = 96) → x = M.1 83 (o + (loN a b + if nbAl w a b = true then 48 else 0)) → K x M := fun o x ho hx => by
        refine hK _ _ (fun K2 h2 => ?_)
        unfold w_X9_between
        intro M1 e1
        subst e1
        refine near (z_f ?_)
        refine v_rng 1 2 rfl (by omega) rfl (fun _ => z_f ?_) (fun q => absurd i2 q)
        have fin : ∀ o' : Int32, o' = nI o → b_X9_between_43 K2 (xset M 81 0 0) (81 + 2) a0 a1 ((xset M 81 0 0).1 81 9) o' := fun o' eo => by
          unfold b_X9_between_43
          rw [ea, eb, e9, eo]
          refine v_spotOf hw hw2 (by omega) (by omega) hn ⟨by decide, ?_, ?_⟩
          · rw [show ln (81 + 2) = 207 by decide]
            exact vp_in_nI (by split <;> omega) (by omega)
          · rw [nI_clamp (by split <;> omega)]
            show K2 ((xset M 81 0 0).1 83 _) _
            rw [e83, ← hx]
            exact h2 _ hthr
        rcases ho with ⟨z, rfl⟩ | ⟨z, rfl⟩
        · exact ⟨fun q => absurd z q, fun _ => fin _ rfl⟩
        · exact ⟨fun _ => fin _ rfl, fun q => absurd q z⟩
      refine ⟨kh, fun z => ⟨k3.1, by rw [k3.2]; exact vp_in_nI hz (by omega), ?_⟩, fun z => ⟨k2.1, by rw [k2.2]; exact vp_in_nI hz (by omega), ?_⟩⟩
      · rw [nI_clamp (by omega)]
        exact go 96 _ (Or.inr ⟨z, rfl⟩) g2
      · rw [nI_clamp (by omega)]
        exact go 0 _ (Or.inl ⟨z, rfl⟩) (by rw [Nat.zero_add]; exact g1)
    · unfold w_X9_between
      intro M1 e1
      subst e1
      refine near (z_f ?_)
      exact v_rng 1 2 rfl (by omega) rfl (fun q => absurd q i2) (fun _ => z_t (h2 _ hthr))
  · unfold w_X9_between
    intro M1 e1
    subst e1
    exact v_near e9 e10 hw hw2 hb (fun a b ha hb' ea eb hn => absurd hn (no a b ha hb' ea eb)) (fun _ => z_t (h2 _ hthr))
