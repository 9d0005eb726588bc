/-! what passes through a border, as the reference has it -/
theorem wd_five {x : Int32} (h1 : -2 ≤ x.toInt) (h2 : x.toInt ≤ 2) : x ∈ [(-2 : Int32), -1, 0, 1, 2] := by
  have h : x.toInt = -2 ∨ x.toInt = -1 ∨ x.toInt = 0 ∨ x.toInt = 1 ∨ x.toInt = 2 := by omega
  rcases h with e | e | e | e | e
  · rw [(q_eq x (-2)).mpr e]
    decide
  · rw [(q_eq x (-1)).mpr e]
    decide
  · rw [(q_eq x 0).mpr e]
    decide
  · rw [(q_eq x 1).mpr e]
    decide
  · rw [(q_eq x 2).mpr e]
    decide
theorem neg_five : ∀ x ∈ [(-2 : Int32), -1, 0, 1, 2], -x ∈ [(-2 : Int32), -1, 0, 1, 2] ∧ (-x).toInt = - x.toInt := by decide
theorem less_r : ∀ f, f < 10 → ∀ x ∈ [(-2 : Int32), -1, 0, 1, 2], ((1 : Int32) ≤ nI f - x → nI f - x = nI (lessI f x.toInt)) ∧ (¬ (1 : Int32) ≤ nI f - x → (1 : Int32) = nI (lessI f x.toInt)) := by decide
theorem less_c : ∀ f, f < 10 → ∀ x ∈ [(-2 : Int32), -1, 0, 1, 2], (if (1 : Int32) < nI f - x then nI f - x else (1 : Int32)) = nI (lessI f x.toInt) := by decide
theorem less_b : ∀ f, f < 10 → ∀ x ∈ [(-2 : Int32), -1, 0, 1, 2], 1 ≤ lessI f x.toInt ∧ lessI f x.toInt ≤ 11 := by decide
def negL : List Int32 := [0, -1, -2, -3, -4, -5, -6, -7, -8, -9, -10, -11]
theorem neg_half : ∀ x ∈ negL, x / (2 : Int32) ∈ negL := by decide
theorem neg_end : ∀ x ∈ negL, ∀ t, t < 10 → (0 ≤ x - nI t → x - nI t = 0) := by decide
theorem neg_sub : ∀ l, l < 12 → ∀ v, v < l → nI v - nI l ∈ negL := by decide
def pGood (Q : Nat) (x : Int32) (k : Nat) : Prop := (∃ q, q ≤ 1000 ∧ x = nI q ∧ q / 2 ^ k = Q) ∨ (x ∈ negL ∧ Q = 0)
theorem pGood_half {Q k : Nat} {x : Int32} (h : pGood Q x (k + 1)) : pGood Q (x / (2 : Int32)) k := by
  rcases h with ⟨q, q1, rfl, q2⟩ | ⟨a, b⟩
  · refine Or.inl ⟨q / 2, by omega, ?_, ?_⟩
    · rw [show (2 : Int32) = nI 2 from rfl, pk_div (by omega) (by omega) (by omega)]
    · rw [Nat.div_div_eq_div_mul, ← q2, Nat.pow_succ, Nat.mul_comm 2]
  · exact Or.inr ⟨neg_half x a, b⟩
theorem pGood_end {Q t : Nat} {x : Int32} (ht : t < 10) (h : pGood Q x 0) : (0 ≤ x - nI t → x - nI t = nI (Q - t)) ∧ (¬ 0 ≤ x - nI t → (0 : Int32) = nI (Q - t)) := by
  rcases h with ⟨q, q1, rfl, q2⟩ | ⟨a, b⟩
  · rw [Nat.pow_zero, Nat.div_one] at q2
    subst q2
    have e : (nI q - nI t).toInt = (q : Int) - t := pk_sub_toInt (by omega) (by omega)
    refine ⟨fun z => ?_, fun z => ?_⟩
    · rw [q_le, e] at z
      have z' : (0 : Int) ≤ (q : Int) - t := z
      exact pk_sub (by omega)
    · rw [q_le, e] at z
      have z' : ¬ (0 : Int) ≤ (q : Int) - t := z
      rw [show q - t = 0 by omega]
      rfl
  · subst b
    rw [Nat.zero_sub]
    exact ⟨fun z => neg_end x a t ht z, fun _ => rfl⟩
theorem v_pass {M : xMem} {w a b Q wl t : Nat} {x : Int32} {post : Int32 → xMem → Prop} (e9 : M.1 81 9 = nI w) (hw : 1 ≤ w) (hw2 : w ≤ 8) (ha : a < 48) (hb : b < 48) (hn : nbE w a b) (hwl : wl < 4) (ht : t < 10) (et : M.1 83 (96 + (loN a b + if nbAl w a b = true then 48 else 0)) = nI t) (hx : pGood Q x wl) (h : post (nI (Q - t)) M) : xlp5 (b_X9_passes_106 post) M (nI a) (nI b) x (nI wl) := by
  refine xlp5_of (I := fun M' a' b' x c => M' = M ∧ a' = nI a ∧ b' = nI b ∧ ∃ k, k < 4 ∧ c = nI k ∧ pGood Q x k) (mu := fun _ _ _ _ c => c.toNatClampNeg) ?_ ⟨rfl, rfl, rfl, wl, hwl, rfl, hx⟩
  intro r M' a' b' x c hI hr
  obtain ⟨rfl, rfl, rfl, k, hk, rfl, hx⟩ := hI
  obtain ⟨l1, l2, l3⟩ := lo_lt ha hb
  unfold b_X9_passes_106
  refine ⟨fun q => ?_, fun q => ?_⟩
  · have k0 : k = 0 := by
      have := (nI_leI (a := k) (b := 0) (by omega) (by omega)).mp q
      omega
    subst k0
    rw [e9]
    refine v_spotOf (o := 96) hw hw2 ha hb hn ⟨vp_in_nI (by split <;> omega) (by omega), ?_⟩
    rw [nI_clamp (by split <;> omega)]
    show (0 ≤ x - M'.1 83 _ → post (x - M'.1 83 _) M') ∧ (¬ 0 ≤ x - M'.1 83 _ → post 0 M')
    rw [et]
    obtain ⟨p1, p2⟩ := pGood_end ht hx
    refine ⟨fun z => ?_, fun z => ?_⟩
    · rw [p1 z]
      exact h
    · rw [p2 z]
      exact h
  · have k0 : 0 < k := Nat.pos_of_ne_zero (fun e => q (by rw [e]; decide))
    obtain ⟨j, rfl⟩ : ∃ j, k = j + 1 := ⟨k - 1, by omega⟩
    have ec : nI (j + 1) + (-1) = nI j := by
      rw [← Int32.sub_eq_add_neg (nI (j + 1)) 1, ← nI_1, Int32.add_sub_cancel]
    rw [ec]
    refine hr _ _ _ _ _ ⟨rfl, rfl, rfl, j, by omega, rfl, pGood_half hx⟩ ?_
    show (nI j).toNatClampNeg < (nI (j + 1)).toNatClampNeg
    rw [nI_clamp (by omega), nI_clamp (by omega)]
    omega
theorem v_passes {M : xMem} {w f a b v : Nat} {post : Int32 → xMem → Prop} (e9 : M.1 81 9 = nI w) (e11 : M.1 81 11 = nI f) (hS : rS (M.1 83)) (hw : 1 ≤ w) (hw2 : w ≤ 8) (hf : f < 10) (ha : a < 48) (hb : b < 48) (hn : nbE w a b) (hv : v ≤ 1000) (h : post (nI (passN w f (M.1 83) a b v)) M) : w_X9_passes M (nI v) (nI a) (nI b) post := by
  obtain ⟨l1, l2, l3⟩ := lo_lt ha hb
  obtain ⟨s1, s2, s3, s4⟩ := hS
  have hsp : (loN a b + if nbAl w a b = true then 48 else 0) < 96 := by split <;> omega
  obtain ⟨wl, w1, w2⟩ := s1 _ hsp
  obtain ⟨t, t1, t2⟩ := s2 _ hsp
  have main : ∀ l : Nat, l < 12 → post (nI ((v - l) / 2 ^ wl - t)) M → b_X9_passes_86 post M (nI a) (nI b) (nI v) (nI l) := fun l hl hp => by
    unfold b_X9_passes_86
    rw [e9]
    refine v_spotOf (o := 0) hw hw2 ha hb hn ⟨vp_in_nI (by omega) (by omega), ?_⟩
    rw [nI_clamp (by omega), Nat.zero_add]
    show xlp5 (b_X9_passes_106 post) M (nI a) (nI b) (nI v - nI l) (M.1 83 _)
    rw [w2]
    refine v_pass e9 hw hw2 ha hb hn w1 t1 t2 ?_ hp
    by_cases c : l ≤ v
    · exact Or.inl ⟨v - l, by omega, pk_sub c, rfl⟩
    · refine Or.inr ⟨neg_sub l hl v (by omega), ?_⟩
      rw [show v - l = 0 by omega, Nat.zero_div]
  have at70 : ∀ x : Int32, x ∈ [(-2 : Int32), -1, 0, 1, 2] → post (nI ((v - lessI f x.toInt) / 2 ^ wl - t)) M → b_X9_passes_70 post M (nI v) (nI a) (nI b) (nI f) x := fun x hx hp => by
    unfold b_X9_passes_70
    obtain ⟨c1, c2⟩ := less_r f hf x hx
    have c3 := less_b f hf x hx
    refine ⟨fun z => ?_, fun z => ?_⟩
    · rw [c1 z]
      exact main _ (by omega) hp
    · rw [c2 z]
      exact main _ (by omega) hp
  have at51 : ∀ x : Int32, x ∈ [(-2 : Int32), -1, 0, 1, 2] → post (nI ((v - lessI f (if a < b then x.toInt else -x.toInt)) / 2 ^ wl - t)) M → b_X9_passes_51 post M (nI v) (nI a) (nI b) x := fun x hx hp => by
    unfold b_X9_passes_51
    rw [e11]
    refine ⟨fun z => at70 _ (neg_five x hx).1 ?_, fun z => at70 _ hx ?_⟩
    · rw [(neg_five x hx).2]
      have := (nI_leI (by omega) (by omega)).mp z
      rw [if_neg (by omega)] at hp
      exact hp
    · have : a < b := Nat.lt_of_not_le (fun y => z ((nI_leI (by omega) (by omega)).mpr y))
      rw [if_pos this] at hp
      exact hp
  have e192 : (192 : Int32).toNatClampNeg = 192 := by decide
  have e193 : (193 : Int32).toNatClampNeg = 193 := by decide
  have w2' : (M.1 83 (loN a b + if nbAl w a b = true then 48 else 0)).toNatClampNeg = wl := by rw [w2, nI_clamp (by omega)]
  have t2' : (M.1 83 (96 + (loN a b + if nbAl w a b = true then 48 else 0))).toNatClampNeg = t := by rw [t2, nI_clamp (by omega)]
  have eP : passN w f (M.1 83) a b v = (v - lessI f (if a < b then (M.1 83 (if nbAl w a b = true then 193 else 192)).toInt else -(M.1 83 (if nbAl w a b = true then 193 else 192)).toInt)) / 2 ^ wl - t := by
    rw [← w2', ← t2']
    rfl
  rw [eP] at h
  have y193 : nbAl w a b = true → b_X9_passes_20 post M (nI v) (nI a) (nI b) := fun al => by
    unfold b_X9_passes_20 b_X9_passes_25
    rw [if_pos al] at h
    refine ⟨fun q => absurd q (by decide), fun _ => ?_⟩
    rw [e193]
    exact at51 _ (wd_five s4.1 s4.2) h
  have y192 : ¬ nbAl w a b = true → b_X9_passes_25 post M (nI v) (nI a) (nI b) 0 := fun al => by
    unfold b_X9_passes_25
    rw [if_neg al] at h
    refine ⟨fun _ => ?_, fun q => absurd rfl q⟩
    rw [e192]
    exact at51 _ (wd_five s3.1 s3.2) h
  have al_iff : nbAl w a b = true ↔ b = a + w ∨ a = b + w := by
    unfold nbAl
    rw [Bool.or_eq_true, decide_eq_true_eq, decide_eq_true_eq]
  unfold w_X9_passes
  rw [e9, nI_add]
  refine ⟨fun q => y193 (al_iff.mpr (Or.inl (q_inj (by omega) (by omega) q))), fun q => ⟨fun q2 => y192 (fun al => ?_), fun q2 => y193 (al_iff.mpr (Or.inr ?_))⟩⟩
  · rcases al_iff.mp al with e | e
    · exact q (by rw [e])
    · exact q2 (by rw [e, pk_sub (by omega), show b + w - w = b by omega])
  · rw [q_eq, q_toI _ (by omega), pk_sub_toInt (by omega) (by omega)] at q2
    omega
