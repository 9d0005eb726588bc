/-! the class's tokens -/
/-- a text in the class: n bytes x -/
def cTx (M : xMem) (n : Nat) (x : Nat → Int32) : Prop := M.1 2 1 = nI n ∧ n ≤ 400 ∧ ∀ i, i < n → M.1 3 i = x i ∧ inN (x i) 256
theorem u_isL {M : xMem} {n q : Nat} {x : Nat → Int32} {post : Int32 → xMem → Prop} (hT : cTx M n x) (hq : q < n) (h1 : isL (x q) = true → post 1 M) (h0 : ¬ isL (x q) = true → post 0 M) : w_X5_isLetter M (nI q) post := by
  obtain ⟨-, t2, t3⟩ := hT
  have e : M.1 (1 + 1 + 1) q = x q := (t3 q hq).1
  unfold w_X5_isLetter
  rw [nI_clamp (by omega), e]
  unfold isL at h1 h0
  rw [decide_eq_true_eq] at h1 h0
  refine ⟨vp_in_nI (by omega) (by omega), fun a => h0 (fun z => Int32.not_lt.mpr z.1 a), fun a => ⟨fun b => h0 (fun z => Int32.not_lt.mpr z.2 b), fun b => h1 ⟨Int32.not_lt.mp a, Int32.not_lt.mp b⟩⟩⟩
theorem u_isD {M : xMem} {n q : Nat} {x : Nat → Int32} {post : Int32 → xMem → Prop} (hT : cTx M n x) (hq : q < n) (h1 : isD (x q) = true → post 1 M) (h0 : ¬ isD (x q) = true → post 0 M) : w_X5_isDigit M (nI q) post := by
  obtain ⟨-, t2, t3⟩ := hT
  have e : M.1 (1 + 1 + 1) q = x q := (t3 q hq).1
  unfold w_X5_isDigit
  rw [nI_clamp (by omega), e]
  unfold isD at h1 h0
  rw [decide_eq_true_eq] at h1 h0
  refine ⟨vp_in_nI (by omega) (by omega), fun a => h0 (fun z => Int32.not_lt.mpr z.1 a), fun a => ⟨fun b => h0 (fun z => Int32.not_lt.mpr z.2 b), fun b => h1 ⟨Int32.not_lt.mp a, Int32.not_lt.mp b⟩⟩⟩
theorem cTx_of {M M' : xMem} {n : Nat} {x : Nat → Int32} (h : cTx M n x) (e2 : M'.1 2 = M.1 2) (e3 : M'.1 3 = M.1 3) : cTx M' n x := by
  unfold cTx
  rw [e2, e3]
  exact h
/-- text constants -/
theorem u_len {M : xMem} {k : Nat} {post : Int32 → xMem → Prop} (hk : k < 10) (h : post (nI (xsLn.getD k 0)) M) : w_J0_length_8abf5 M k post := by
  have hl : ∀ k, k < 10 → nI (xsLn.getD k 0) >>> ((0 : Int32) &&& 31) = nI (xsLn.getD k 0) := by decide
  unfold w_J0_length_8abf5 w_J0_coder_7d493
  refine ⟨hk, hk, fun q => absurd q (by decide), fun _ => ⟨rfl, ?_⟩⟩
  show post (nI (xsLn.getD k 0) >>> ((0 : Int32) &&& 31)) M
  rw [hl k hk]
  exact h
set_option maxRecDepth 4000 in
theorem u_char {M : xMem} {k i : Nat} {post : Int32 → xMem → Prop} (hk : k < 10) (hi : i < xsLn.getD k 0) (h : post ((wds k).getD i 0) M) : w_J0_charAt_5068e M k (nI i) post := by
  have hb : ∀ k, k < 10 → xsLn.getD k 0 < 10 ∧ ∀ i, i < xsLn.getD k 0 → ((xsBy.getD k []).getD i 0) = nI ((xsBy.getD k []).getD i 0).toNatClampNeg ∧ ((xsBy.getD k []).getD i 0).toNatClampNeg < 128 := by decide
  have hq : ∀ q : Fin 128, ((nI q.1 &&& (255 : Int32)).toUInt32 % 65536).toInt32 = nI q.1 := by decide
  obtain ⟨h10, h2⟩ := hb k hk
  obtain ⟨e0, q128⟩ := h2 i hi
  obtain ⟨q, e⟩ : ∃ q : Fin 128, ((xsBy.getD k []).getD i 0) = nI q.1 := ⟨⟨_, q128⟩, e0⟩
  have n1 := (pk_charN (q := q.1) (by omega)).1
  unfold w_J0_charAt_5068e w_J0_isLatin1_aae02 w_J1_charAt_3b067 w_J0_checkIndex_df160
  refine ⟨hk, hk, fun z => absurd z (by decide), fun _ => ⟨fun z => absurd rfl z, fun _ => ⟨fun z => absurd z (by decide), fun _ => ⟨hk, nI_pos (by omega), nI_lt hi (by omega), vp_in_nI hi (by omega), ?_⟩⟩⟩⟩
  rw [nI_clamp (by omega), e, hq]
  refine ⟨n1, n1, ?_⟩
  have h' : post ((xsBy.getD k []).getD i 0) M := h
  rw [e] at h'
  exact h'
theorem wds_len : ∀ k, k < 10 → (wds k).length = xsLn.getD k 0 := by decide
theorem u_spells {M : xMem} {n s k : Nat} {x : Nat → Int32} {l : List Int32} {post : Int32 → xMem → Prop} (hT : cTx M n x) (hk : k < 10) (e3 : M.1 1 3 = nI s) (e2 : M.1 1 2 = nI (s + l.length)) (hs : s + l.length ≤ n) (hl : ∀ i, i < l.length → l.getD i 0 = x (s + i)) (h1 : l = wds k → post 1 M) (h0 : l ≠ wds k → post 0 M) : w_X5_spells M k post := by
  have hln : xsLn.getD k 0 < 10 := by
    have : ∀ k, k < 10 → xsLn.getD k 0 < 10 := by decide
    exact this k hk
  have hw := wds_len k hk
  obtain ⟨-, t2, t3⟩ := id hT
  unfold w_X5_spells
  refine ⟨hk, u_len hk ?_⟩
  rw [e2, e3, pk_sub (by omega), Nat.add_sub_cancel_left]
  refine ⟨fun e => ?_, fun ne => h0 (fun z => ne (by rw [z, hw]))⟩
  have el : l.length = xsLn.getD k 0 := q_inj (by omega) (by omega) e
  refine cnt3 (xsLn.getD k 0) (by omega) (fun i M' => M' = M ∧ ∀ j, j < i → l.getD j 0 = (wds k).getD j 0) ⟨rfl, fun j hj => absurd hj (Nat.not_lt_zero _)⟩ (fun r i M' hi hI hr => ?_)
  obtain ⟨rfl, hI⟩ := hI
  unfold b_X5_spells_20
  refine ⟨hk, u_len hk ⟨fun q => ?_, fun q => ?_⟩⟩
  · have e : i = xsLn.getD k 0 := Nat.le_antisymm hi ((nI_cond (by omega) (by omega)).mp q)
    subst e
    refine h1 (List.ext_getElem (by omega) (fun j j1 j2 => ?_))
    have := hI j (by omega)
    rw [List.getD_eq_getElem?_getD, List.getD_eq_getElem?_getD, List.getElem?_eq_getElem j1, List.getElem?_eq_getElem j2] at this
    exact this
  · have hli : i < xsLn.getD k 0 := Nat.lt_of_not_le (fun q2 => q ((nI_cond (by omega) (by omega)).mpr q2))
    rw [e3, nI_add, nI_1, nI_clamp (by omega)]
    have eb : M'.1 (1 + 1 + 1) (s + i) = x (s + i) := (t3 (s + i) (by omega)).1
    rw [eb, ← hl i (by omega)]
    refine ⟨vp_in_nI (by omega) (by omega), u_char hk hli ⟨fun y => hr hli M' ⟨rfl, fun j hj => ?_⟩, fun ny => h0 (fun z => ny (by rw [z]))⟩⟩
    by_cases e : j = i
    · rw [e]
      exact y
    · exact hI j (by omega)
theorem u_b38 {M : xMem} {n s : Nat} {x : Nat → Int32} {l : List Int32} {post : Int32 → xMem → Prop} (hT : cTx M n x) (e3 : M.1 1 3 = nI s) (e2 : M.1 1 2 = nI (s + l.length)) (hs : s + l.length ≤ n) (hl : ∀ i, i < l.length → l.getD i 0 = x (s + i)) (h : post (nI (wcode l)) M) : b_X5_wordToken_38 post M := by
  have sp : ∀ k, k < 10 → ∀ {post : Int32 → xMem → Prop}, (l = wds k → post 1 M) → (l ≠ wds k → post 0 M) → w_X5_spells M k post := fun k hk => fun a b => u_spells hT hk e3 e2 hs hl a b
  unfold wcode at h
  unfold b_X5_wordToken_38
  refine sp 0 (by omega) (fun a => z_f ?_) (fun a0 => z_t ?_)
  · rw [if_pos a] at h
    exact h
  rw [if_neg a0] at h
  refine sp 1 (by omega) (fun a => z_f ?_) (fun a1 => z_t ?_)
  · rw [if_pos a] at h
    exact h
  rw [if_neg a1] at h
  refine sp 2 (by omega) (fun a => z_f ?_) (fun a2 => z_t ?_)
  · rw [if_pos a] at h
    exact h
  rw [if_neg a2] at h
  refine sp 3 (by omega) (fun a => z_f ?_) (fun a3 => z_t ?_)
  · rw [if_pos a] at h
    exact h
  rw [if_neg a3] at h
  refine sp 4 (by omega) (fun a => z_f ?_) (fun a4 => z_t ?_)
  · rw [if_pos a] at h
    exact h
  rw [if_neg a4] at h
  refine sp 5 (by omega) (fun a => z_f ?_) (fun a5 => z_t ?_)
  · rw [if_pos a] at h
    exact h
  rw [if_neg a5] at h
  refine sp 6 (by omega) (fun a => z_f ?_) (fun a6 => z_t ?_)
  · rw [if_pos a] at h
    exact h
  rw [if_neg a6] at h
  refine sp 7 (by omega) (fun a => z_f ?_) (fun a7 => z_t ?_)
  · rw [if_pos a] at h
    exact h
  rw [if_neg a7] at h
  refine sp 8 (by omega) (fun a => z_f ?_) (fun a8 => z_t ?_)
  · rw [if_pos a] at h
    exact h
  rw [if_neg a8] at h
  refine sp 9 (by omega) (fun a => z_f ?_) (fun a9 => z_t ?_)
  · rw [if_pos a] at h
    exact h
  rw [if_neg a9] at h
  exact h
theorem m_ne1 {M : xMem} {k : Nat} {v : Int32} {j : Nat} (h : j ≠ 1) : (xset M 1 k v).1 j = M.1 j := m_row _ _ _ h
/-- the class has read a token from place p on -/
def cTk (M M' : xMem) (x : Nat → Int32) (n p : Nat) : Prop := (∀ j, j ≠ 1 → M'.1 j = M.1 j) ∧ M'.2 = M.2 ∧ M'.1 1 2 = nI (tkE x n p) ∧ M'.1 1 3 = nI (tkS x n p) ∧ M'.1 1 4 = nI (tkC x n p) ∧ (tkC x n p = 2 → M'.1 1 5 = nI (tkV x n p))
theorem u_word {M : xMem} {n s : Nat} {x : Nat → Int32} {post : Int32 → xMem → Prop} (hT : cTx M n x) (hs : s ≤ n) (e2 : M.1 1 2 = nI s) (e3 : M.1 1 3 = nI s) (hK : ∀ M', (∀ j, j ≠ 1 → M'.1 j = M.1 j) → M'.2 = M.2 → M'.1 1 2 = nI (endO isL x n s) → M'.1 1 3 = nI s → post (nI (wcode (ltO x n s))) M') : w_X5_wordToken M post := by
  have t2 := hT.2.1
  obtain ⟨w1, w2⟩ := ltO_spec (x := x) (n - s) s rfl hs
  have he := endO_le (f := isL) (x := x) hs
  unfold w_X5_wordToken
  refine xlp1_of (I := fun M' => (∀ j, j ≠ 1 → M'.1 j = M.1 j) ∧ M'.2 = M.2 ∧ M'.1 1 3 = nI s ∧ ∃ q, q ≤ n ∧ M'.1 1 2 = nI q ∧ endO isL x n q = endO isL x n s) (mu := fun M' => n - (M'.1 1 2).toNatClampNeg) ?_ ⟨fun _ _ => rfl, rfl, e3, s, hs, e2, rfl⟩
  intro r M' hI hr
  obtain ⟨g1, g2, g3, q, hq, g4, g5⟩ := hI
  have hT' : cTx M' n x := cTx_of hT (g1 2 (by omega)) (g1 3 (by omega))
  have e21 : M'.1 (1 + 1) 1 = nI n := hT'.1
  have out : ¬ (q < n ∧ isL (x q) = true) → b_X5_wordToken_38 post M' := fun c => by
    rw [endO_stop c] at g5
    refine u_b38 (l := ltO x n s) hT' g3 (by rw [g4, g5, w1]) (by omega) (fun i hi => (w2 i hi).1) (hK M' g1 g2 (by rw [g4, g5]) g3)
  unfold b_X5_wordToken_0
  rw [e21, g4]
  refine ⟨fun z => out (fun c => ?_), fun z => ?_⟩
  · have := (nI_cond (by omega) (by omega)).mp z
    omega
  · have hl : q < n := Nat.lt_of_not_le (fun q2 => z ((nI_cond (by omega) (by omega)).mpr q2))
    refine u_isL hT' hl (fun il => z_f (fun M5 e5 => ?_)) (fun nl => z_t (out (fun c => nl c.2)))
    have e12 : M5.1 1 2 = nI (q + 1) := by rw [e5, m_same, g4, nI_1]
    refine hr M5 ⟨fun j hj => by rw [e5, m_row _ _ _ hj]; exact g1 j hj, by rw [e5, m_snd]; exact g2, by rw [e5, m_col _ _ _ (by omega)]; exact g3, q + 1, hl, e12, by rw [endO_go hl il]; exact g5⟩ ?_
    show n - (M5.1 1 2).toNatClampNeg < n - (M'.1 1 2).toNatClampNeg
    rw [e12, g4, nI_clamp (by omega), nI_clamp (by omega)]
    omega
theorem u_num {M : xMem} {n s : Nat} {x : Nat → Int32} {post : Int32 → xMem → Prop} (hT : cTx M n x) (hs : s < n) (e2 : M.1 1 2 = nI s) (e3 : M.1 1 3 = nI s) (hK : ∀ M', (∀ j, j ≠ 1 → M'.1 j = M.1 j) → M'.2 = M.2 → M'.1 1 2 = nI (endO isD x n s) → M'.1 1 3 = nI s → M'.1 1 5 = nI (nvO x n s 0) → post (nI (if x s = 48 ∧ 1 < endO isD x n s - s then 1 else if 99 < nvO x n s 0 then 1 else 2)) M') : w_X5_numberToken M post := by
  have t2 := hT.2.1
  have he := endO_le (f := isD) (x := x) (Nat.le_of_lt hs)
  unfold w_X5_numberToken
  intro M1 e1
  refine xlp1_of (I := fun M' => (∀ j, j ≠ 1 → M'.1 j = M.1 j) ∧ M'.2 = M.2 ∧ M'.1 1 3 = nI s ∧ ∃ q v, q ≤ n ∧ v ≤ 999 ∧ M'.1 1 2 = nI q ∧ M'.1 1 5 = nI v ∧ endO isD x n q = endO isD x n s ∧ nvO x n q v = nvO x n s 0) (mu := fun M' => n - (M'.1 1 2).toNatClampNeg) ?_ ⟨fun j hj => by rw [e1, m_row _ _ _ hj], by rw [e1, m_snd], by rw [e1, m_col _ _ _ (by omega)]; exact e3, s, 0, Nat.le_of_lt hs, by omega, by rw [e1, m_col _ _ _ (by omega)]; exact e2, by rw [e1, m_same]; rfl, rfl, rfl⟩
  intro r M' hI hr
  obtain ⟨g1, g2, g3, q, v, hq, hv, g4, g6, g5, g7⟩ := hI
  have hT' : cTx M' n x := cTx_of hT (g1 2 (by omega)) (g1 3 (by omega))
  have e21 : M'.1 (1 + 1) 1 = nI n := hT'.1
  have out : ¬ (q < n ∧ isD (x q) = true) → b_X5_numberToken_79 post M' := fun c => by
    rw [endO_stop c] at g5
    rw [nvO_stop c] at g7
    have fin := hK M' g1 g2 (by rw [g4, g5]) g3 (by rw [g6, g7])
    have eb : M'.1 (1 + 1 + 1) s = x s := (hT'.2.2 s hs).1
    have i99 : (nI v ≤ (99 : Int32)) ↔ v ≤ 99 := nI_leI (b := 99) (by omega) (by omega)
    unfold b_X5_numberToken_79
    rw [g3, g4, nI_clamp (by omega), eb, g5, pk_sub (by omega)]
    rw [g7] at g6
    have i1 : (nI (endO isD x n s - s) ≤ (1 : Int32)) ↔ endO isD x n s - s ≤ 1 := nI_leI (b := 1) (by omega) (by omega)
    have b113 : ¬ (x s = 48 ∧ 1 < endO isD x n s - s) → b_X5_numberToken_113 post M' := fun c => by
      rw [if_neg c] at fin
      unfold b_X5_numberToken_113 b_X5_numberToken_114 b_X5_numberToken_128
      rw [g6, ← g7]
      rw [← g7] at fin
      refine ⟨fun z => absurd rfl z, fun _ => ⟨fun z => ?_, fun z => ?_⟩⟩
      · rw [if_neg (by have := i99.mp z; omega)] at fin
        exact fin
      · rw [if_pos (Nat.lt_of_not_le (fun y => z (i99.mpr y)))] at fin
        exact fin
    refine ⟨vp_in_nI (by omega) (by omega), fun z => b113 (fun y => z y.1), fun z => ⟨fun y => b113 (fun w => by have := i1.mp y; omega), fun y => ?_⟩⟩
    have c : x s = 48 ∧ 1 < endO isD x n s - s := ⟨z, Nat.lt_of_not_le (fun w => y (i1.mpr w))⟩
    rw [if_pos c] at fin
    unfold b_X5_numberToken_114 b_X5_numberToken_128
    exact ⟨fun _ => fin, fun w => absurd w (by decide)⟩
  unfold b_X5_numberToken_5
  rw [e21, g4]
  refine ⟨fun z => out (fun c => ?_), fun z => ?_⟩
  · have := (nI_cond (by omega) (by omega)).mp z
    omega
  · have hl : q < n := Nat.lt_of_not_le (fun q2 => z ((nI_cond (by omega) (by omega)).mpr q2))
    refine u_isD hT' hl (fun il => z_f ?_) (fun nl => z_t (out (fun c => nl c.2)))
    obtain ⟨b, b1, b2, b3⟩ := isD_iff.mp il
    have gv := nvO_go (v := v) hl il
    rw [b3, nI_clamp (by omega)] at gv
    have nx : ∀ M3 v', v' = (if v ≤ 99 then 10 * v + b - 48 else v) → (∀ j, j ≠ 1 → M3.1 j = M'.1 j) → M3.2 = M'.2 → (∀ k, k ≠ 5 → M3.1 1 k = M'.1 1 k) → M3.1 1 5 = nI v' → b_X5_numberToken_66 post r M3 := fun M3 v' ev a1 a2 a3 a4 => by
      unfold b_X5_numberToken_66
      intro M5 e5
      have e12 : M5.1 1 2 = nI (q + 1) := by rw [e5, m_same, a3 2 (by omega), g4, nI_1]
      refine hr M5 ⟨fun j hj => by rw [e5, m_row _ _ _ hj, a1 j hj]; exact g1 j hj, by rw [e5, m_snd, a2]; exact g2, by rw [e5, m_col _ _ _ (by omega), a3 3 (by omega)]; exact g3, q + 1, v', hl, by rw [ev]; split <;> omega, e12, by rw [e5, m_col _ _ _ (by omega)]; exact a4, by rw [endO_go hl il]; exact g5, by rw [ev, gv]; exact g7⟩ ?_
      show n - (M5.1 1 2).toNatClampNeg < n - (M'.1 1 2).toNatClampNeg
      rw [e12, g4, nI_clamp (by omega), nI_clamp (by omega)]
      omega
    have i99 : ((99 : Int32) < nI v) ↔ 99 < v := nI_ltI (a := 99) (by omega) (by omega)
    rw [g6]
    refine ⟨fun y => nx M' v (by rw [if_neg (by have := i99.mp y; omega)]) (fun _ _ => rfl) rfl (fun _ _ => rfl) g6, fun y => ?_⟩
    have v99 : v ≤ 99 := Nat.le_of_not_lt (fun w => y (i99.mpr w))
    rw [g4, nI_clamp (by omega)]
    refine ⟨vp_in_nI (by omega) (by omega), fun M7 e7 => nx M7 (10 * v + b - 48) (by rw [if_pos v99]) (fun j hj => by rw [e7, m_row _ _ _ hj]) (by rw [e7, m_snd]) (fun k hk => by rw [e7, m_col _ _ _ hk]) ?_⟩
    have eb : M'.1 (1 + 1 + 1) q = nI b := (hT'.2.2 q hl).1.trans b3
    rw [e7, m_same, eb, show (10 : Int32) = nI 10 from rfl, pk_mul, nI_add, show (48 : Int32) = nI 48 from rfl, pk_sub (by omega)]
theorem u_next {M : xMem} {n p : Nat} {x : Nat → Int32} {post : xMem → Prop} (hT : cTx M n x) (hp : p ≤ n) (e2 : M.1 1 2 = nI p) (hK : ∀ M', cTk M M' x n p → post M') : w_X5_nextToken M post := by
  have t2 := hT.2.1
  obtain ⟨s1, s2⟩ := tkS_le (x := x) hp
  unfold w_X5_nextToken
  refine xlp1_of (I := fun M' => (∀ j, j ≠ 1 → M'.1 j = M.1 j) ∧ M'.2 = M.2 ∧ ∃ q, q ≤ n ∧ M'.1 1 2 = nI q ∧ endO isB x n q = tkS x n p) (mu := fun M' => n - (M'.1 1 2).toNatClampNeg) ?_ ⟨fun _ _ => rfl, rfl, p, hp, e2, rfl⟩
  intro r M' hI hr
  obtain ⟨g1, g2, q, hq, g4, g5⟩ := hI
  have hT' : cTx M' n x := cTx_of hT (g1 2 (by omega)) (g1 3 (by omega))
  have e21 : M'.1 (1 + 1) 1 = nI n := hT'.1
  have out : ¬ (q < n ∧ isB (x q) = true) → b_X5_nextToken_44 post M' := fun c => by
    rw [endO_stop c] at g5
    unfold b_X5_nextToken_44
    intro M1 e1
    have n1 : ∀ j, j ≠ 1 → M1.1 j = M.1 j := fun j hj => by rw [e1, m_row _ _ _ hj]; exact g1 j hj
    have n2 : M1.2 = M.2 := by rw [e1, m_snd]; exact g2
    have n12 : M1.1 1 2 = nI q := by rw [e1, m_col _ _ _ (by omega)]; exact g4
    have n13 : M1.1 1 3 = nI q := by rw [e1, m_same]; exact g4
    have hT1 : cTx M1 n x := cTx_of hT (n1 2 (by omega)) (n1 3 (by omega))
    have n21 : M1.1 (1 + 1) 1 = nI n := hT1.1
    rw [n12, n21]
    refine ⟨fun lt => ?_, fun nlt => fun M17 e17 => ?_⟩
    · have hl : q < n := (nI_ltI (by omega) (by omega)).mp lt
      have hlS : tkS x n p < n := by omega
      refine u_isL hT1 hl (fun il => z_f ?_) (fun nl => z_t ?_)
      · refine u_word hT1 hq n12 n13 (fun M3 a1 a2 a3 a4 => ?_)
        intro M16 e16
        refine hK M16 ⟨fun j hj => by rw [e16, m_row _ _ _ hj, a1 j hj]; exact n1 j hj, by rw [e16, m_snd, a2]; exact n2, ?_, ?_, ?_, fun h2 => ?_⟩
        · rw [e16, m_col _ _ _ (by omega), a3]
          unfold tkE
          rw [if_pos hlS, ← g5, if_pos il]
        · rw [e16, m_col _ _ _ (by omega), a4, g5]
        · rw [e16, m_same]
          unfold tkC
          rw [if_pos hlS, ← g5, if_pos il]
        · unfold tkC at h2
          rw [if_pos hlS, ← g5, if_pos il] at h2
          have := wcode_le (ltO x n q)
          omega
      · rw [n12]
        refine u_isD hT1 hl (fun id => z_f ?_) (fun nd => z_t ?_)
        · refine u_num hT1 hl n12 n13 (fun M3 a1 a2 a3 a4 a5 => ?_)
          intro M13 e13
          refine hK M13 ⟨fun j hj => by rw [e13, m_row _ _ _ hj, a1 j hj]; exact n1 j hj, by rw [e13, m_snd, a2]; exact n2, ?_, ?_, ?_, fun h2 => ?_⟩
          · rw [e13, m_col _ _ _ (by omega), a3]
            unfold tkE
            rw [if_pos hlS, ← g5, if_neg nl, if_pos id]
          · rw [e13, m_col _ _ _ (by omega), a4, g5]
          · rw [e13, m_same]
            unfold tkC tkV
            rw [if_pos hlS, ← g5, if_neg nl, if_pos id]
          · rw [e13, m_col _ _ _ (by omega), a5]
            unfold tkV
            rw [← g5]
        · have eb : M1.1 (1 + 1 + 1) q = x q := (hT1.2.2 q hl).1
          rw [n12, nI_clamp (by omega), eb]
          have fin : ∀ c, tkC x n p = c → b_X5_nextToken_141 post M1 (nI c) := fun c hc => by
            unfold b_X5_nextToken_141
            intro M3 e3 M4 e4
            refine hK M4 ⟨fun j hj => by rw [e4, m_row _ _ _ hj, e3, m_row _ _ _ hj]; exact n1 j hj, by rw [e4, m_snd, e3, m_snd]; exact n2, ?_, ?_, ?_, fun h2 => ?_⟩
            · rw [e4, m_same, e3, m_col _ _ _ (by omega), n12, nI_1]
              unfold tkE
              rw [if_pos hlS, ← g5, if_neg nl, if_neg nd]
            · rw [e4, m_col _ _ _ (by omega), e3, m_col _ _ _ (by omega), n13, g5]
            · rw [e4, m_col _ _ _ (by omega), e3, m_same, hc]
            · unfold tkC at h2
              rw [if_pos hlS, ← g5, if_neg nl, if_neg nd] at h2
              split at h2 <;> omega
          refine ⟨vp_in_nI (by omega) (by omega), fun ne => fin 1 ?_, fun e => fin 3 ?_⟩
          · unfold tkC
            rw [if_pos hlS, ← g5, if_neg nl, if_neg nd, if_neg ne]
          · unfold tkC
            rw [if_pos hlS, ← g5, if_neg nl, if_neg nd, if_pos e]
    · have hn : n ≤ q := Nat.le_of_not_lt (fun z => nlt ((nI_ltI (by omega) (by omega)).mpr z))
      have hS : ¬ tkS x n p < n := by omega
      refine hK M17 ⟨fun j hj => by rw [e17, m_row _ _ _ hj]; exact n1 j hj, by rw [e17, m_snd]; exact n2, ?_, ?_, ?_, fun h2 => ?_⟩
      · rw [e17, m_col _ _ _ (by omega), n12]
        unfold tkE
        rw [if_neg hS, g5]
      · rw [e17, m_col _ _ _ (by omega), n13, g5]
      · rw [e17, m_same]
        unfold tkC
        rw [if_neg hS]
        rfl
      · unfold tkC at h2
        rw [if_neg hS] at h2
        omega
  unfold b_X5_nextToken_0
  rw [e21, g4]
  refine ⟨fun z => out (fun c => ?_), fun z => ?_⟩
  · have := (nI_cond (by omega) (by omega)).mp z
    omega
  · have hl : q < n := Nat.lt_of_not_le (fun q2 => z ((nI_cond (by omega) (by omega)).mpr q2))
    have eb : M'.1 (1 + 1 + 1) q = x q := (hT'.2.2 q hl).1
    rw [nI_clamp (by omega), eb]
    refine ⟨vp_in_nI (by omega) (by omega), fun ne => out (fun c => ne (decide_eq_true_eq.mp c.2)), fun e M4 e4 => ?_⟩
    have e12 : M4.1 1 2 = nI (q + 1) := by rw [e4, m_same, nI_1]
    refine hr M4 ⟨fun j hj => by rw [e4, m_row _ _ _ hj]; exact g1 j hj, by rw [e4, m_snd]; exact g2, q + 1, hl, e12, by rw [endO_go hl (decide_eq_true e)]; exact g5⟩ ?_
    show n - (M4.1 1 2).toNatClampNeg < n - (M'.1 1 2).toNatClampNeg
    rw [e12, g4, nI_clamp (by omega), nI_clamp (by omega)]
    omega
