/-! prices -/
theorem cnt6 {A B : Type} {b : (xMem → A → B → Int32 → Int32 → Int32 → Prop) → xMem → A → B → Int32 → Int32 → Int32 → Prop} {M : xMem} {p : A} {q : B} {x y : Int32} (N : Nat) (hN : N < 100000) (I : Nat → Int32 → Int32 → Prop) (h0 : I 0 x y) (hs : ∀ (r : xMem → A → B → Int32 → Int32 → Int32 → Prop) (k : Nat) (x y : Int32), k ≤ N → I k x y → (k < N → ∀ x' y', I (k + 1) x' y' → r M p q x' y' (nI (k + 1))) → b r M p q x y (nI k)) : xlp6 b M p q x y 0 := by
  refine xlp6_of (I := fun M' p' q' x y c => M' = M ∧ p' = p ∧ q' = q ∧ ∃ k, k ≤ N ∧ I k x y ∧ c = nI k) (mu := fun _ _ _ _ _ c => N - c.toNatClampNeg) ?_ ⟨rfl, rfl, rfl, 0, Nat.zero_le _, h0, rfl⟩
  intro r M' p' q' x y c hI hr
  obtain ⟨rfl, rfl, rfl, k, hk, hx, rfl⟩ := hI
  refine hs r k x y hk hx (fun hk2 x' y' hx' => hr _ _ _ _ _ _ ⟨rfl, rfl, rfl, k + 1, hk2, hx', rfl⟩ ?_)
  show N - (nI (k + 1)).toNatClampNeg < N - (nI k).toNatClampNeg
  rw [nI_clamp (by omega), nI_clamp (by omega)]
  omega
theorem cnt9 {b : (xMem → Int32 → Int32 → Int32 → Int32 → Int32 → Int32 → Int32 → Int32 → Prop) → xMem → Int32 → Int32 → Int32 → Int32 → Int32 → Int32 → Int32 → Int32 → Prop} {M : xMem} {p1 p2 p3 p4 p5 x y : Int32} (N : Nat) (hN : N < 100000) (I : Nat → Int32 → Int32 → Prop) (h0 : I 0 x y) (hs : ∀ (r : xMem → Int32 → Int32 → Int32 → Int32 → Int32 → Int32 → Int32 → Int32 → Prop) (k : Nat) (x y : Int32), k ≤ N → I k x y → (k < N → ∀ x' y', I (k + 1) x' y' → r M p1 p2 p3 p4 p5 x' y' (nI (k + 1))) → b r M p1 p2 p3 p4 p5 x y (nI k)) : xlp9 b M p1 p2 p3 p4 p5 x y 0 := by
  refine xlp9_of (I := fun M' a1 a2 a3 a4 a5 x y c => M' = M ∧ a1 = p1 ∧ a2 = p2 ∧ a3 = p3 ∧ a4 = p4 ∧ a5 = p5 ∧ ∃ k, k ≤ N ∧ I k x y ∧ c = nI k) (mu := fun _ _ _ _ _ _ _ _ c => N - c.toNatClampNeg) ?_ ⟨rfl, rfl, rfl, rfl, rfl, rfl, 0, Nat.zero_le _, h0, rfl⟩
  intro r M' a1 a2 a3 a4 a5 x y c hI hr
  obtain ⟨rfl, rfl, rfl, rfl, rfl, rfl, k, hk, hx, rfl⟩ := hI
  refine hs r k x y hk hx (fun hk2 x' y' hx' => hr _ _ _ _ _ _ _ _ _ ⟨rfl, rfl, rfl, rfl, rfl, rfl, k + 1, hk2, hx', rfl⟩ ?_)
  show N - (nI (k + 1)).toNatClampNeg < N - (nI k).toNatClampNeg
  rw [nI_clamp (by omega), nI_clamp (by omega)]
  omega
def holdB (dd : Nat → Int32) (hr d : Nat) : Bool := decide ((dd (5 * d + 1)).toInt ≤ hr ∧ (hr : Int) ≤ (dd (5 * d + 2)).toInt) && (List.range d).all fun e => !decide (dd (5 * e) = dd (5 * d) ∧ (dd (5 * e + 1)).toInt ≤ hr ∧ (hr : Int) ≤ (dd (5 * e + 2)).toInt)
theorem holdB_iff {dd : Nat → Int32} {hr d : Nat} : holdB dd hr d = true ↔ dHold dd d hr := by
  unfold holdB dHold
  rw [Bool.and_eq_true, decide_eq_true_eq, List.all_eq_true]
  refine and_congr Iff.rfl ⟨fun a e he => ?_, fun a e he => ?_⟩
  · have := a e (List.mem_range.mpr he)
    rw [Bool.not_eq_true', decide_eq_false_iff_not] at this
    exact this
  · rw [Bool.not_eq_true', decide_eq_false_iff_not]
    exact a e (List.mem_range.mp he)
def sellN (dd : Nat → Int32) (hr : Nat) (v : Int32) : Nat → Int32
  | 0 => 0
  | n + 1 => if holdB dd hr n = true ∧ ¬ v < dd (5 * n + 4) then sellN dd hr v n + 1 else sellN dd hr v n
def buyN (wk : Nat → Int32) (v : Int32) : Nat → Int32
  | 0 => 0
  | n + 1 => if wk (4 * n + 3) < v then buyN wk v n else buyN wk v n + 1
theorem c_sellers {M : xMem} {h hr nd : Nat} {v : Int32} {dd : Nat → Int32} {post : Int32 → xMem → Prop} (hk : kd h = 2) (hnd : nd ≤ 8) (hh : hr < 12) (e3 : M.1 h 3 = nI nd) (eb : bitsOf (M.1 (h + 20) hr) nd (fun d => dHold dd d hr)) (ep : ∀ d, d < nd → M.1 (h + 11 + 1 + d) 4 = dd (5 * d + 4)) (hp : post (sellN dd hr v nd) M) : w_X2_sellers M h (nI hr) v post := by
  have e4 : (4 : Int32).toNatClampNeg = 4 := by decide
  unfold w_X2_sellers
  refine ⟨hk, ?_⟩
  refine cnt5 nd (by omega) (fun k x => x = sellN dd hr v k) rfl (fun r k x hk' hx hr' => ?_)
  unfold b_X2_sellers_5
  rw [e3]
  refine ⟨fun q => ?_, fun q => ?_⟩
  · have e : k = nd := Nat.le_antisymm hk' ((nI_cond (by omega) (by omega)).mp q)
    rw [hx, e]
    exact hp
  · have hl : k < nd := Nat.lt_of_not_le (fun q2 => q ((nI_cond (by omega) (by omega)).mpr q2))
    obtain ⟨g1, g0⟩ := bitsOf_get (by omega) eb hl
    refine ⟨vp_in_nI hh (by omega), ?_⟩
    rw [nI_clamp (by omega), nI_clamp (by omega), e4, ep k hl]
    have st : ∀ y, y = sellN dd hr v (k + 1) → b_X2_sellers_44 post h r M (nI hr) v y (nI k) := fun y hy => by
      unfold b_X2_sellers_44
      rw [nI_1]
      exact hr' hl y hy
    have un : sellN dd hr v (k + 1) = if holdB dd hr k = true ∧ ¬ v < dd (5 * k + 4) then sellN dd hr v k + 1 else sellN dd hr v k := rfl
    refine ⟨fun z => st x ?_, fun z => ⟨vp_in_nI (by omega) (by omega), fun z2 => st x ?_, fun z2 => st (x + 1) ?_⟩⟩
    · have : ¬ holdB dd hr k = true := fun a => by
        rw [g1 (holdB_iff.mp a)] at z
        exact absurd z (by decide)
      rw [un, if_neg (fun a => this a.1), hx]
    · rw [un, if_neg (fun a => a.2 z2), hx]
    · have : holdB dd hr k = true := holdB_iff.mpr (Classical.byContradiction (fun a => z (g0 a)))
      rw [un, if_pos ⟨this, z2⟩, hx]
theorem c_buyers {M : xMem} {h nw : Nat} {v : Int32} {wk : Nat → Int32} {post : Int32 → xMem → Prop} (hk : kd h = 2) (hnw : nw ≤ 6) (e2 : M.1 h 2 = nI nw) (ep : ∀ d, d < nw → M.1 (h + 4 + 1 + d) 3 = wk (4 * d + 3)) (hp : post (buyN wk v nw) M) : w_X2_buyers M h v post := by
  have e3 : (3 : Int32).toNatClampNeg = 3 := by decide
  unfold w_X2_buyers
  refine ⟨hk, ?_⟩
  refine cnt4 nw (by omega) (buyN wk v) rfl (fun r k hk' hr' => ?_)
  unfold b_X2_buyers_4
  rw [e2]
  refine ⟨fun q => ?_, fun q => ?_⟩
  · have e : k = nw := Nat.le_antisymm hk' ((nI_cond (by omega) (by omega)).mp q)
    rw [e]
    exact hp
  · have hl : k < nw := Nat.lt_of_not_le (fun q2 => q ((nI_cond (by omega) (by omega)).mpr q2))
    have un : buyN wk v (k + 1) = if wk (4 * k + 3) < v then buyN wk v k else buyN wk v k + 1 := rfl
    have h1 := hr' hl
    rw [un] at h1
    refine ⟨vp_in_nI (by omega) (by omega), ?_⟩
    rw [nI_clamp (by omega), e3, ep k hl]
    unfold b_X2_buyers_27
    rw [nI_1]
    refine ⟨fun z => ?_, fun z => ?_⟩
    · rw [if_pos z] at h1
      exact h1
    · rw [if_neg z] at h1
      exact h1
def firV (E : Nat → Bool) : Nat → Int32
  | 0 => -9
  | n + 1 => if firV E n = -9 then (if E n = true then nI n else -9) else firV E n
def lasV (E : Nat → Bool) : Nat → Int32
  | 0 => -9
  | n + 1 => if E n = true then nI n else lasV E n
theorem nI_n9 {n : Nat} (h : n < 1000000) : nI n ≠ -9 := fun e => by
  rw [q_eq, q_toI _ (by omega)] at e
  have e9 : (-9 : Int32).toInt = -9 := by decide
  omega
theorem firV_stay {E : Nat → Bool} {k : Nat} (hk : k < 1000) (h : firV E k = -9) (hE : E k = true) : ∀ m, firV E (k + 1 + m) = nI k
  | 0 => by
    show (if firV E k = -9 then (if E k = true then nI k else -9) else firV E k) = nI k
    rw [if_pos h, if_pos hE]
  | m + 1 => by
    show (if firV E (k + 1 + m) = -9 then _ else firV E (k + 1 + m)) = nI k
    rw [firV_stay hk h hE m, if_neg (nI_n9 (by omega))]
theorem u_isHour {M : xMem} {p : Int32} {post : Int32 → xMem → Prop} (h1 : inN p 12 → post 1 M) (h0 : ¬ inN p 12 → post 0 M) : w_X8_isHour M p post := by
  unfold w_X8_isHour
  refine ⟨fun q => h0 (fun z => ((inN_iff (by omega)).mp z).1 q), fun q => ⟨fun q2 => h0 (fun z => ((inN_iff (by omega)).mp z).2 q2), fun q2 => h1 ((inN_iff (by omega)).mpr ⟨q, q2⟩)⟩⟩
theorem v_isHour {M : xMem} {p : Int32} {post : Int32 → xMem → Prop} (h1 : inN p 12 → post 1 M) (h0 : ¬ inN p 12 → post 0 M) : w_X9_isHour M p post := by
  unfold w_X9_isHour
  exact v_rng 11 12 rfl (by omega) rfl (fun q => ⟨Or.inr rfl, h1 q⟩) (fun q => ⟨Or.inl rfl, h0 q⟩)
theorem u_isBit {M : xMem} {p : Int32} {post : Int32 → xMem → Prop} (h1 : inN p 2 → post 1 M) (h0 : ¬ inN p 2 → post 0 M) : w_X8_isBit M p post := by
  unfold w_X8_isBit b_X8_isBit_9
  refine ⟨fun q => h1 ⟨0, by omega, q⟩, fun q => ⟨fun q2 => h0 (fun z => ?_), fun q2 => h1 ⟨1, by omega, q2⟩⟩⟩
  obtain ⟨k, k1, rfl⟩ := z
  rcases (show k = 0 ∨ k = 1 by omega) with rfl | rfl
  · exact q rfl
  · exact q2 rfl
theorem v_isBit {M : xMem} {p : Int32} {post : Int32 → xMem → Prop} (h1 : inN p 2 → post 1 M) (h0 : ¬ inN p 2 → post 0 M) : w_X9_isBit M p post := by
  unfold w_X9_isBit
  exact v_rng 1 2 rfl (by omega) rfl (fun q => ⟨Or.inr rfl, h1 q⟩) (fun q => ⟨Or.inl rfl, h0 q⟩)
def eqV (wk dd : Nat → Int32) (nw nd hr : Nat) (v : Nat) : Bool := decide (sellN dd hr (nI v) nd = buyN wk (nI v) nw)
/-- the reference's prices -/
theorem r_price {M : xMem} {nw nd hr : Nat} {p2 : Int32} {post : Int32 → xMem → Prop} (hnw : nw ≤ 6) (hnd : nd ≤ 8) (hh : hr < 12) (e20 : M.1 81 20 = nI nw) (e21 : M.1 81 21 = nI nd) (hp : post (if p2 = 0 then firV (eqV (M.1 87) (M.1 88) nw nd hr) 100 else lasV (eqV (M.1 87) (M.1 88) nw nd hr) 100) M) : xlp6 (b_X9_price_31 post) M (nI hr) p2 (-9) (-9) 0 := by
  refine cnt6 100 (by omega) (fun k x y => x = firV (eqV (M.1 87) (M.1 88) nw nd hr) k ∧ y = lasV (eqV (M.1 87) (M.1 88) nw nd hr) k) ⟨rfl, rfl⟩ (fun r v x y hv hx hr' => ?_)
  obtain ⟨hx, hy⟩ := hx
  unfold b_X9_price_31
  refine ⟨fun q => ?_, fun q => ?_⟩
  · have e : v = 100 := Nat.le_antisymm hv ((li_le (n := 100) (by omega) (by decide)).mp q)
    subst e
    refine ⟨fun z => ?_, fun z => ?_⟩
    · rw [if_neg z, ← hy] at hp
      exact hp
    · rw [if_pos z, ← hx] at hp
      exact hp
  · have hl : v < 100 := Nat.lt_of_not_le (fun q2 => q ((li_le (by omega) (by decide)).mpr q2))
    refine cnt9 nd (by omega) (fun k x' y' => x' = sellN (M.1 88) hr (nI v) k ∧ y' = 0) ⟨rfl, rfl⟩ (fun r1 k x' y' hk hx' hr1 => ?_)
    obtain ⟨rfl, rfl⟩ := hx'
    unfold b_X9_price_47
    rw [e21]
    refine ⟨fun q => ?_, fun q => ?_⟩
    · have e : k = nd := Nat.le_antisymm hk ((nI_cond (by omega) (by omega)).mp q)
      subst e
      refine cnt9 nw (by omega) (fun j x' y' => x' = sellN (M.1 88) hr (nI v) k ∧ y' = buyN (M.1 87) (nI v) j) ⟨rfl, rfl⟩ (fun r2 j x' y' hj hx' hr2 => ?_)
      obtain ⟨rfl, rfl⟩ := hx'
      unfold b_X9_price_101
      rw [e20]
      refine ⟨fun q => ?_, fun q => ?_⟩
      · have e : j = nw := Nat.le_antisymm hj ((nI_cond (by omega) (by omega)).mp q)
        subst e
        have fin : ∀ x' y', x' = firV (eqV (M.1 87) (M.1 88) j k hr) (v + 1) → y' = lasV (eqV (M.1 87) (M.1 88) j k hr) (v + 1) → b_X9_price_176 post r M (nI hr) p2 x' (nI v) y' := fun x' y' a b => by
          unfold b_X9_price_176
          rw [nI_1]
          exact hr' hl x' y' ⟨a, b⟩
        have unf : firV (eqV (M.1 87) (M.1 88) j k hr) (v + 1) = if firV (eqV (M.1 87) (M.1 88) j k hr) v = -9 then (if eqV (M.1 87) (M.1 88) j k hr v = true then nI v else -9) else firV (eqV (M.1 87) (M.1 88) j k hr) v := rfl
        have unl : lasV (eqV (M.1 87) (M.1 88) j k hr) (v + 1) = if eqV (M.1 87) (M.1 88) j k hr v = true then nI v else lasV (eqV (M.1 87) (M.1 88) j k hr) v := rfl
        have ev : eqV (M.1 87) (M.1 88) j k hr v = true ↔ sellN (M.1 88) hr (nI v) k = buyN (M.1 87) (nI v) j := by
          unfold eqV
          rw [decide_eq_true_eq]
        rw [unf, unl, ← hx, ← hy] at fin
        refine ⟨fun ne => ?_, fun eq => ⟨fun n9 => ?_, fun i9 => ?_⟩⟩
        · have ne' : ¬ eqV (M.1 87) (M.1 88) j k hr v = true := fun a => ne (ev.mp a)
          rw [if_neg ne', if_neg ne'] at fin
          unfold b_X9_price_160 b_X9_price_161
          refine ⟨fun _ => fin x y ?_ rfl, fun a => absurd a ne⟩
          by_cases h9 : x = -9
          · rw [if_pos h9, h9]
          · rw [if_neg h9]
        · rw [if_pos (ev.mpr eq), if_pos (ev.mpr eq), if_neg n9] at fin
          unfold b_X9_price_160 b_X9_price_161
          exact ⟨fun a => absurd eq a, fun _ => fin x (nI v) rfl rfl⟩
        · rw [if_pos (ev.mpr eq), if_pos (ev.mpr eq), if_pos i9] at fin
          unfold b_X9_price_161
          exact ⟨fun a => absurd eq a, fun _ => fin (nI v) (nI v) rfl rfl⟩
      · have hl2 : j < nw := Nat.lt_of_not_le (fun q2 => q ((nI_cond (by omega) (by omega)).mpr q2))
        have ea : (4 : Int32) * nI j + (3 : Int32) = nI (4 * j + 3) := by rw [show (4 : Int32) = nI 4 from rfl, show (3 : Int32) = nI 3 from rfl, pk_mul, nI_add]
        rw [ea, nI_clamp (by omega)]
        have un : buyN (M.1 87) (nI v) (j + 1) = if M.1 87 (4 * j + 3) < nI v then buyN (M.1 87) (nI v) j else buyN (M.1 87) (nI v) j + 1 := rfl
        have h3 := fun y' (hy' : y' = buyN (M.1 87) (nI v) (j + 1)) => hr2 hl2 _ y' ⟨rfl, hy'⟩
        rw [un] at h3
        unfold b_X9_price_133
        rw [nI_1]
        refine ⟨vp_in_nI (by omega) (by omega), fun z => h3 _ ?_, fun z => h3 _ ?_⟩
        · have z' : M.1 87 (4 * j + 3) < nI v := z
          rw [if_pos z', Int32.add_zero]
        · have z' : ¬ M.1 87 (4 * j + 3) < nI v := z
          rw [if_neg z']
    · have hl2 : k < nd := Nat.lt_of_not_le (fun q2 => q ((nI_cond (by omega) (by omega)).mpr q2))
      have ea : (5 : Int32) * nI k + (4 : Int32) = nI (5 * k + 4) := by rw [show (5 : Int32) = nI 5 from rfl, show (4 : Int32) = nI 4 from rfl, pk_mul, nI_add]
      have un : sellN (M.1 88) hr (nI v) (k + 1) = if holdB (M.1 88) hr k = true ∧ ¬ nI v < M.1 88 (5 * k + 4) then sellN (M.1 88) hr (nI v) k + 1 else sellN (M.1 88) hr (nI v) k := rfl
      have h3 := fun x' (hx' : x' = sellN (M.1 88) hr (nI v) (k + 1)) => hr1 hl2 x' 0 ⟨hx', rfl⟩
      rw [un] at h3
      have s0 : ¬ (holdB (M.1 88) hr k = true ∧ ¬ nI v < M.1 88 (5 * k + 4)) → b_X9_price_88 post r r1 M (nI hr) p2 x y (nI v) 0 (nI k) (sellN (M.1 88) hr (nI v) k) := fun a => by
        unfold b_X9_price_88 b_X9_price_89
        rw [nI_1]
        refine h3 _ ?_
        rw [if_neg a, Int32.add_zero]
      refine v_holds (by omega) hh (fun hH => z_f ?_) (fun hH => z_t (s0 (fun a => hH (holdB_iff.mp a.1))))
      rw [ea, nI_clamp (by omega)]
      refine ⟨vp_in_nI (by omega) (by omega), fun z => s0 (fun a => a.2 z), fun z => ?_⟩
      unfold b_X9_price_89
      rw [nI_1]
      refine h3 _ ?_
      rw [if_pos ⟨holdB_iff.mpr hH, z⟩]
theorem P_price {M : xMem} (hR : RelE M) (a0 : Int32) (a1 : Int32) {K : Int32 → xMem → Prop} (hK : ∀ r M1, (∀ K2 : Int32 → xMem → Prop, (∀ M2, RelE M2 → K2 r M2) → w_X9_price M1 a0 a1 K2) → K r M1) : w_X8_price M a0 a1 K := by
  obtain ⟨h, d, w, hg, f, nw, nd, hR⟩ := hR
  obtain ⟨hh, e5, hk⟩ := Rel_h hR
  obtain ⟨r1, r2, r3, r4, r5, r6, r7, r8, r9, r10, r11, r12, r13⟩ := id hR
  have hnw : nw ≤ 6 := r3.2.2.2.1
  have hnd : nd ≤ 8 := r3.2.2.2.2
  have hthr : RelE (xset M 81 0 0) := ⟨h, d, w, hg, f, nw, nd, Rel_thr hR⟩
  have e20 : (xset M 81 0 0).1 81 20 = nI nw := (m_col _ _ _ (by omega)).trans r4.2.2.2.1
  have e21 : (xset M 81 0 0).1 81 21 = nI nd := (m_col _ _ _ (by omega)).trans r4.2.2.2.2.1
  have e87 : (xset M 81 0 0).1 87 = M.1 87 := m_row _ _ _ (by omega)
  have e88 : (xset M 81 0 0).1 88 = M.1 88 := m_row _ _ _ (by omega)
  unfold w_X8_price
  refine u_isHour (fun hin => z_f ?_) (fun hin => z_t (hK _ _ (fun K2 h2 => ?_)))
  · refine u_isBit (fun hin2 => z_nf ?_) (fun hin2 => z_nt (hK _ _ (fun K2 h2 => ?_)))
    · obtain ⟨hr, hr1, rfl⟩ := id hin
      have go : ∀ x, x = (if a1 = 0 then firV (eqV (M.1 87) (M.1 88) nw nd hr) 100 else lasV (eqV (M.1 87) (M.1 88) nw nd hr) 100) → K x M := fun x hx => by
        refine hK _ _ (fun K2 h2 => ?_)
        unfold w_X9_price
        intro M1 e1
        subst e1
        refine v_isHour (fun _ => z_f ?_) (fun q => absurd hin q)
        refine v_isBit (fun _ => z_nf ?_) (fun q => absurd hin2 q)
        refine r_price hnw hnd hr1 e20 e21 ?_
        rw [e87, e88, ← hx]
        exact h2 _ hthr
      refine cnt5 100 (by omega) (fun k x => (a1 = 0 ∧ x = -9 ∧ firV (eqV (M.1 87) (M.1 88) nw nd hr) k = -9) ∨ (a1 ≠ 0 ∧ x = lasV (eqV (M.1 87) (M.1 88) nw nd hr) k)) ?_ (fun r v x hv hx hr' => ?_)
      · by_cases h0 : a1 = 0
        · exact Or.inl ⟨h0, rfl, rfl⟩
        · exact Or.inr ⟨h0, rfl⟩
      · unfold b_X8_price_22
        have c : ((99 : Int32) < nI v) ↔ 100 ≤ v := by
          rw [q_lt, q_toI _ (by omega)]
          have : (99 : Int32).toInt = 99 := by decide
          omega
        refine ⟨fun q => ?_, fun q => ?_⟩
        · have e : v = 100 := Nat.le_antisymm hv (c.mp q)
          subst e
          refine go _ ?_
          rcases hx with ⟨a, b, e⟩ | ⟨a, b⟩
          · rw [if_pos a, e, b]
          · rw [if_neg a, b]
        · have hl : v < 100 := Nat.lt_of_not_le (fun q2 => q (c.mpr q2))
          rw [e5]
          refine c_sellers (dd := M.1 88) hk hnd hr1 r7.1.2.2.2 (r7.2.2.2.1 hr hr1) (fun k hk' => ?_) ?_
          · rw [show h + 11 + 1 + k = h + (12 + k) by omega]
            exact r7.2.2.1 k 4 hk' (by omega)
          · rw [e5]
            refine c_buyers (wk := M.1 87) hk hnw r7.1.2.2.1 (fun k hk' => ?_) ?_
            · rw [show h + 4 + 1 + k = h + (5 + k) by omega]
              exact r7.2.1 k 3 hk' (by omega)
            · have ev : eqV (M.1 87) (M.1 88) nw nd hr v = true ↔ sellN (M.1 88) hr (nI v) nd = buyN (M.1 87) (nI v) nw := by
                unfold eqV
                rw [decide_eq_true_eq]
              have unf : firV (eqV (M.1 87) (M.1 88) nw nd hr) (v + 1) = if firV (eqV (M.1 87) (M.1 88) nw nd hr) v = -9 then (if eqV (M.1 87) (M.1 88) nw nd hr v = true then nI v else -9) else firV (eqV (M.1 87) (M.1 88) nw nd hr) v := rfl
              have unl : lasV (eqV (M.1 87) (M.1 88) nw nd hr) (v + 1) = if eqV (M.1 87) (M.1 88) nw nd hr v = true then nI v else lasV (eqV (M.1 87) (M.1 88) nw nd hr) v := rfl
              unfold b_X8_price_64
              rw [nI_1]
              refine ⟨fun eq => ⟨fun n0 => hr' hl _ (Or.inr ⟨n0, by rw [unl, if_pos (ev.mpr eq)]⟩), fun z0 => go _ ?_⟩, fun ne => hr' hl _ ?_⟩
              · rcases hx with ⟨a, b, e⟩ | ⟨a, b⟩
                · rw [if_pos a]
                  have := firV_stay (k := v) (by omega) e (ev.mpr eq) (99 - v)
                  rw [show v + 1 + (99 - v) = 100 by omega] at this
                  exact this.symm
                · exact absurd z0 a
              · have ne' : ¬ eqV (M.1 87) (M.1 88) nw nd hr v = true := fun a => ne (ev.mp a)
                rcases hx with ⟨a, b, e⟩ | ⟨a, b⟩
                · exact Or.inl ⟨a, b, by rw [unf, if_pos e, if_neg ne']⟩
                · exact Or.inr ⟨a, by rw [unl, if_neg ne', b]⟩
    · unfold w_X9_price
      intro M1 e1
      subst e1
      refine v_isHour (fun _ => z_f ?_) (fun q => absurd hin q)
      exact v_isBit (fun q => absurd q hin2) (fun _ => z_nt (h2 _ hthr))
  · unfold w_X9_price
    intro M1 e1
    subst e1
    exact v_isHour (fun q => absurd q hin) (fun _ => z_t (h2 _ hthr))
