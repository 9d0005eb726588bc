/-! who -/
def alB (E : Nat → Bool) : Nat → Bool
  | 0 => true
  | n + 1 => alB E n && E n
theorem alB_cong {E E' : Nat → Bool} : ∀ n, (∀ i, i < n → E i = E' i) → alB E n = alB E' n
  | 0, _ => rfl
  | n + 1, h => by
    unfold alB
    rw [alB_cong n (fun i hi => h i (Nat.lt_succ_of_lt hi)), h n (Nat.lt_succ_self n)]
theorem alB_false {E : Nat → Bool} {k : Nat} (h : alB E k = false) : ∀ m, alB E (k + m) = false
  | 0 => h
  | m + 1 => by
    show (alB E (k + m) && E (k + m)) = false
    rw [alB_false h m]
    rfl
/-- the sets that fit: how many, who is in all, who in some -/
def whoS (F : Nat → Bool) (top : Int32) : Nat → Int32 × Int32 × Int32
  | 0 => (0, top, 0)
  | n + 1 => if F n = true then ((whoS F top n).1 + 1, (whoS F top n).2.1 &&& nI n, (whoS F top n).2.2 ||| nI n) else whoS F top n
theorem whoS_cong {F F' : Nat → Bool} {top : Int32} : ∀ n, (∀ i, i < n → F i = F' i) → whoS F top n = whoS F' top n
  | 0, _ => rfl
  | n + 1, h => by
    unfold whoS
    rw [whoS_cong n (fun i hi => h i (Nat.lt_succ_of_lt hi)), h n (Nat.lt_succ_self n)]
def whoA (p : Int32) (x : Int32 × Int32 × Int32) : Int32 := if p = 0 then x.1 else if p = 2 then x.2.2 else if x.1 = 0 then -9 else x.2.1
def eC (M : xMem) (nw s i : Nat) : Bool := decide (hSm (fun j => M.1 (7 + j) (M.1 18 i).toNatClampNeg) (fun j => (nI s).toBitVec.toNat.testBit j) nw = M.1 19 i)
def eR (M : xMem) (nw s i : Nat) : Bool := decide (hSm (fun j => M.1 89 (48 * j + (M.1 83 (195 + 2 * i)).toNatClampNeg)) (fun j => (nI s).toBitVec.toNat.testBit j) nw = M.1 83 (196 + 2 * i))
theorem u_fitsH {M : xMem} {h nw n s : Nat} {post : Int32 → xMem → Prop} (hk : kd h = 2) (e5 : (M.1 0 5).toNatClampNeg = h) (e2 : M.1 h 2 = nI nw) (hnw : nw ≤ 6) (e17 : M.1 17 2 = nI n) (hn : n ≤ 6) (hy : ∀ i, i < n → ∃ y, y < 48 ∧ M.1 18 i = nI y) (h1 : alB (eC M nw s) n = true → post 1 M) (h0 : alB (eC M nw s) n = false → post 0 M) : w_X8_fitsHearsay M (nI s) post := by
  unfold w_X8_fitsHearsay
  refine xlp3_of (I := fun M' a q => M' = M ∧ a = nI s ∧ ∃ k, k ≤ n ∧ q = nI k ∧ alB (eC M nw s) k = true) (mu := fun _ _ q => n - q.toNatClampNeg) ?_ ⟨rfl, rfl, 0, Nat.zero_le _, rfl, rfl⟩
  intro r M' a q hI hr
  obtain ⟨rfl, rfl, k, hk', rfl, hf⟩ := hI
  unfold b_X8_fitsHearsay_2
  have e17' : M'.1 (0 + 17) 2 = nI n := e17
  rw [e17']
  refine ⟨fun q => ?_, fun q => ?_⟩
  · have e : k = n := Nat.le_antisymm hk' ((nI_cond (by omega) (by omega)).mp q)
    subst e
    exact h1 hf
  · have hl : k < n := Nat.lt_of_not_le (fun q2 => q ((nI_cond (by omega) (by omega)).mpr q2))
    obtain ⟨y, y1, y2⟩ := hy k hl
    have y2' : M'.1 (0 + 17 + 1) k = nI y := y2
    have ec : eC M' nw s k = decide (hSm (fun j => M'.1 (7 + j) y) (fun j => (nI s).toBitVec.toNat.testBit j) nw = M'.1 19 k) := by
      unfold eC
      rw [y2, nI_clamp (by omega)]
    have un : alB (eC M' nw s) (k + 1) = (alB (eC M' nw s) k && eC M' nw s k) := rfl
    refine ⟨vp_in_nI (by omega) (by omega), ?_⟩
    rw [e5, nI_clamp (by omega), y2']
    refine u_heardIn hk e2 hnw y1 ⟨vp_in_nI (by omega) (by omega), fun z => ?_, fun z => ?_⟩
    · rw [nI_1]
      refine hr _ _ _ ⟨rfl, rfl, k + 1, hl, rfl, ?_⟩ ?_
      · rw [un, hf, ec]
        exact decide_eq_true z
      · show n - (nI (k + 1)).toNatClampNeg < n - (nI k).toNatClampNeg
        rw [nI_clamp (by omega), nI_clamp (by omega)]
        omega
    · have f : alB (eC M' nw s) (k + 1) = false := by
        rw [un, hf, ec]
        exact decide_eq_false z
      have := alB_false f (n - (k + 1))
      rw [show k + 1 + (n - (k + 1)) = n by omega] at this
      exact h0 this
theorem b_ans {p : Int32} {x : Int32 × Int32 × Int32} {post : Int32 → Prop} (h : post (whoA p x)) : ((¬ p = 0) → (((¬ p = (2 : Int32)) → (((¬ x.1 = 0) → post x.2.1) ∧ ((x.1 = 0) → post (-9 : Int32)))) ∧ ((p = (2 : Int32)) → post x.2.2))) ∧ ((p = 0) → post x.1) := by
  unfold whoA at h
  refine ⟨fun a => ⟨fun b => ⟨fun c => ?_, fun c => ?_⟩, fun b => ?_⟩, fun a => ?_⟩
  · rw [if_neg a, if_neg b, if_neg c] at h
    exact h
  · rw [if_neg a, if_neg b, if_pos c] at h
    exact h
  · rw [if_neg a, if_pos b] at h
    exact h
  · rw [if_pos a] at h
    exact h
theorem u_who {M : xMem} {h nw n : Nat} {p : Int32} {post : Int32 → xMem → Prop} (hk : kd h = 2) (e5 : (M.1 0 5).toNatClampNeg = h) (e2 : M.1 h 2 = nI nw) (hnw : nw ≤ 6) (e17 : M.1 17 2 = nI n) (hn : n ≤ 6) (hy : ∀ i, i < n → ∃ y, y < 48 ∧ M.1 18 i = nI y) (hp : post (whoA p (whoS (fun s => alB (eC M nw s) n) (nI (2 ^ nw - 1)) (2 ^ nw))) M) : xlp6 (b_X8_who_27 post) M p 0 (nI (2 ^ nw - 1)) 0 0 := by
  have h64 : 2 ^ nw ≤ 2 ^ 6 := Nat.pow_le_pow_right (by decide) hnw
  have hpos := Nat.two_pow_pos nw
  refine xlp6_of (I := fun M' a x y z q => M' = M ∧ a = p ∧ ∃ k, k ≤ 2 ^ nw ∧ q = nI k ∧ (x, y, z) = whoS (fun s => alB (eC M nw s) n) (nI (2 ^ nw - 1)) k) (mu := fun _ _ _ _ _ q => 2 ^ nw - q.toNatClampNeg) ?_ ⟨rfl, rfl, 0, Nat.zero_le _, rfl, rfl⟩
  intro r M' a x y z q hI hr
  obtain ⟨rfl, rfl, k, hk', rfl, hx⟩ := hI
  unfold b_X8_who_27
  rw [e5]
  refine u_allW hk e2 hnw ⟨fun q => ?_, fun q => ?_⟩
  · have := (nI_ltI (by omega) (by omega)).mp q
    have e : k = 2 ^ nw := by omega
    rw [e] at hx
    rw [← hx] at hp
    exact b_ans (x := (x, y, z)) (post := fun v => post v M') hp
  · have hl : k < 2 ^ nw := by
      have : ¬ 2 ^ nw - 1 < k := fun y => q ((nI_ltI (by omega) (by omega)).mpr y)
      omega
    have un : whoS (fun s => alB (eC M' nw s) n) (nI (2 ^ nw - 1)) (k + 1) = if alB (eC M' nw k) n = true then (x + 1, y &&& nI k, z ||| nI k) else (x, y, z) := by
      show (if alB (eC M' nw k) n = true then ((whoS (fun s => alB (eC M' nw s) n) (nI (2 ^ nw - 1)) k).1 + 1, (whoS (fun s => alB (eC M' nw s) n) (nI (2 ^ nw - 1)) k).2.1 &&& nI k, (whoS (fun s => alB (eC M' nw s) n) (nI (2 ^ nw - 1)) k).2.2 ||| nI k) else whoS (fun s => alB (eC M' nw s) n) (nI (2 ^ nw - 1)) k) = _
      rw [← hx]
    have nx : ∀ x' y' z', (x', y', z') = whoS (fun s => alB (eC M' nw s) n) (nI (2 ^ nw - 1)) (k + 1) → b_X8_who_66 post r M' a x' y' z' (nI k) := fun x' y' z' e => by
      unfold b_X8_who_66
      rw [nI_1]
      refine hr _ _ _ _ _ _ ⟨rfl, rfl, k + 1, hl, rfl, e⟩ ?_
      show 2 ^ nw - (nI (k + 1)).toNatClampNeg < 2 ^ nw - (nI k).toNatClampNeg
      rw [nI_clamp (by omega), nI_clamp (by omega)]
      omega
    refine u_fitsH hk e5 e2 hnw e17 hn hy (fun f => z_nf (nx _ _ _ ?_)) (fun f => z_nt (nx _ _ _ ?_))
    · rw [un, if_pos f]
    · rw [un, if_neg (by rw [f]; decide)]
theorem v_who {M : xMem} {nw n : Nat} {p : Int32} {post : Int32 → xMem → Prop} (e20 : M.1 81 20 = nI nw) (hnw : nw ≤ 6) (e194 : M.1 83 194 = nI n) (hn : n ≤ 6) (hy : ∀ i, i < n → ∃ y, y < 48 ∧ M.1 83 (195 + 2 * i) = nI y) (hp : post (whoA p (whoS (fun s => alB (eR M nw s) n) (nI (2 ^ nw - 1)) (2 ^ nw))) M) : xlp6 (b_X9_who_37 post) M p 0 (nI (2 ^ nw - 1)) 0 0 := by
  have h64 : 2 ^ nw ≤ 2 ^ 6 := Nat.pow_le_pow_right (by decide) hnw
  have hpos := Nat.two_pow_pos nw
  have c194 : (194 : Int32).toNatClampNeg = 194 := by decide
  have e194' : M.1 (81 + 2) 194 = nI n := e194
  refine xlp6_of (I := fun M' a x y z q => M' = M ∧ a = p ∧ ∃ k, k ≤ 2 ^ nw ∧ q = nI k ∧ (x, y, z) = whoS (fun s => alB (eR M nw s) n) (nI (2 ^ nw - 1)) k) (mu := fun _ _ _ _ _ q => 2 ^ nw - q.toNatClampNeg) ?_ ⟨rfl, rfl, 0, Nat.zero_le _, rfl, rfl⟩
  intro r M' a x y z q hI hr
  obtain ⟨rfl, rfl, k, hk', rfl, hx⟩ := hI
  unfold b_X9_who_37
  rw [e20, bit_one (by omega)]
  refine ⟨fun q => ?_, fun q => ?_⟩
  · have e : k = 2 ^ nw := Nat.le_antisymm hk' ((nI_cond (by omega) (by omega)).mp q)
    rw [e] at hx
    rw [← hx] at hp
    exact b_ans (x := (x, y, z)) (post := fun v => post v M') hp
  · have hl : k < 2 ^ nw := Nat.lt_of_not_le (fun q2 => q ((nI_cond (by omega) (by omega)).mpr q2))
    have un : whoS (fun s => alB (eR M' nw s) n) (nI (2 ^ nw - 1)) (k + 1) = if alB (eR M' nw k) n = true then (x + 1, y &&& nI k, z ||| nI k) else (x, y, z) := by
      show (if alB (eR M' nw k) n = true then ((whoS (fun s => alB (eR M' nw s) n) (nI (2 ^ nw - 1)) k).1 + 1, (whoS (fun s => alB (eR M' nw s) n) (nI (2 ^ nw - 1)) k).2.1 &&& nI k, (whoS (fun s => alB (eR M' nw s) n) (nI (2 ^ nw - 1)) k).2.2 ||| nI k) else whoS (fun s => alB (eR M' nw s) n) (nI (2 ^ nw - 1)) k) = _
      rw [← hx]
    have nx : ∀ x' y' z', (x', y', z') = whoS (fun s => alB (eR M' nw s) n) (nI (2 ^ nw - 1)) (k + 1) → r M' a x' y' z' (nI (k + 1)) := fun x' y' z' e => by
      refine hr _ _ _ _ _ _ ⟨rfl, rfl, k + 1, hl, rfl, e⟩ ?_
      show 2 ^ nw - (nI (k + 1)).toNatClampNeg < 2 ^ nw - (nI k).toNatClampNeg
      rw [nI_clamp (by omega), nI_clamp (by omega)]
      omega
    refine xlp8_of (I := fun M1 a1 x1 y1 z1 q1 f i => M1 = M' ∧ a1 = a ∧ x1 = x ∧ y1 = y ∧ z1 = z ∧ q1 = nI k ∧ ∃ j, j ≤ n ∧ i = nI j ∧ f = if alB (eR M' nw k) j = true then 1 else 0) (mu := fun _ _ _ _ _ _ _ i => n - i.toNatClampNeg) ?_ ⟨rfl, rfl, rfl, rfl, rfl, rfl, 0, Nat.zero_le _, rfl, rfl⟩
    intro r2 M1 a1 x1 y1 z1 q1 f i hI hr2
    obtain ⟨rfl, rfl, rfl, rfl, rfl, rfl, j, hj, rfl, hf⟩ := hI
    unfold b_X9_who_54
    rw [c194, e194']
    refine ⟨fun q => ?_, fun q => ?_⟩
    · have e : j = n := Nat.le_antisymm hj ((nI_cond (by omega) (by omega)).mp q)
      subst e
      unfold b_X9_who_134 b_X9_who_148 b_X9_who_163
      rw [nI_1]
      by_cases c : alB (eR M1 nw k) j = true
      · rw [if_pos c] at hf un
        have f1 : ¬ f = 0 := by rw [hf]; decide
        exact ⟨fun z => absurd z f1, fun _ => ⟨fun z => absurd z f1, fun _ => ⟨fun z => absurd z f1, fun _ => nx _ _ _ un.symm⟩⟩⟩
      · rw [if_neg c] at hf un
        refine ⟨fun _ => ⟨fun _ => ⟨fun _ => ?_, fun z => absurd hf z⟩, fun z => absurd hf z⟩, fun z => absurd hf z⟩
        rw [Int32.add_zero, Int32.and_self, Int32.or_zero]
        exact nx _ _ _ un.symm
    · have hlj : j < n := Nat.lt_of_not_le (fun q2 => q ((nI_cond (by omega) (by omega)).mpr q2))
      obtain ⟨y', y1', y2'⟩ := hy j hlj
      have un2 : alB (eR M1 nw k) (j + 1) = (alB (eR M1 nw k) j && eR M1 nw k j) := rfl
      have n2 : ∀ f', f' = (if alB (eR M1 nw k) (j + 1) = true then 1 else 0) → b_X9_who_115 post r r2 M1 a1 x1 y1 z1 (nI k) (nI j) f' := fun f' e => by
        unfold b_X9_who_115
        rw [nI_1]
        refine hr2 _ _ _ _ _ _ _ _ ⟨rfl, rfl, rfl, rfl, rfl, rfl, j + 1, hlj, rfl, e⟩ ?_
        show n - (nI (j + 1)).toNatClampNeg < n - (nI j).toNatClampNeg
        rw [nI_clamp (by omega), nI_clamp (by omega)]
        omega
      have a195 : (195 : Int32) + (2 : Int32) * nI j = nI (195 + 2 * j) := by rw [show (195 : Int32) = nI 195 from rfl, show (2 : Int32) = nI 2 from rfl, pk_mul, nI_add]
      by_cases c : alB (eR M1 nw k) j = true
      · rw [if_pos c] at hf
        have f1 : ¬ f = 0 := by rw [hf]; decide
        refine ⟨fun z => absurd z f1, fun _ => ?_⟩
        rw [a195, nI_1, nI_clamp (by omega), nI_clamp (by omega)]
        have y3 : M1.1 (81 + 2) (195 + 2 * j) = nI y' := y2'
        rw [y3]
        have ec : eR M1 nw k j = decide (hSm (fun i => M1.1 89 (48 * i + y')) (fun i => (nI k).toBitVec.toNat.testBit i) nw = M1.1 83 (196 + 2 * j)) := by
          unfold eR
          rw [y2', nI_clamp (by omega)]
        refine ⟨vp_in_nI (by omega) (by omega), ?_⟩
        refine v_heardBy (t := fun i => (nI k).toBitVec.toNat.testBit i) e20 hnw y1' (fun i hi => ⟨fun z => ⟨z, Or.inl rfl⟩, fun z => z.1⟩) ⟨vp_in_nI (by omega) (by omega), fun z => ?_, fun z => ?_⟩
        · unfold b_X9_who_114
          refine n2 _ ?_
          rw [un2, c, ec, decide_eq_false (show ¬ _ from by rw [show 196 + 2 * j = 195 + 2 * j + 1 by omega]; exact z)]
          rfl
        · refine n2 _ ?_
          rw [un2, c, ec, decide_eq_true (show _ = _ from by rw [show 196 + 2 * j = 195 + 2 * j + 1 by omega]; exact z)]
          rfl
      · rw [if_neg c] at hf
        refine ⟨fun _ => ?_, fun z => absurd hf z⟩
        unfold b_X9_who_114
        refine n2 _ ?_
        rw [un2, if_neg (fun z => c ((Bool.and_eq_true _ _).mp z).1)]
theorem P_who {M : xMem} (hR : RelE M) (a0 : Int32) {K : Int32 → xMem → Prop} (hK : ∀ r M1, (∀ K2 : Int32 → xMem → Prop, (∀ M2, RelE M2 → K2 r M2) → w_X9_who M1 a0 K2) → K r M1) : w_X8_who M a0 K := by
  obtain ⟨h, d, w, hg, f, nw, nd, hR⟩ := hR
  obtain ⟨hh, e5, hk⟩ := Rel_h hR
  obtain ⟨r1, r2, r3, r4, r5, r6, r7, r8, r9, r10, r11, r12, r13⟩ := id hR
  have hb := (rB_bounds r3).2
  have hnw : nw ≤ 6 := r3.2.2.2.1
  have hthrE : RelE (xset M 81 0 0) := ⟨h, d, w, hg, f, nw, nd, Rel_thr hR⟩
  obtain ⟨n, n1, n2, n3, n4⟩ := id r9
  unfold w_X8_who
  refine u_rng 2 3 rfl (by omega) rfl (fun hin => z_nf ?_) (fun hin => z_nt (hK _ _ (fun K2 h2 => ?_)))
  · rw [e5]
    refine u_allW hk r7.1.2.2.1 hnw ?_
    refine u_who hk e5 r7.1.2.2.1 hnw n2 n1 (fun i hi => ?_) (hK _ _ (fun K2 h2 => ?_))
    · obtain ⟨q1, q2, ⟨y, y1, y2⟩, q4⟩ := n4 i hi
      exact ⟨y, by omega, q1.trans y2⟩
    · unfold w_X9_who
      intro M1 e1
      subst e1
      refine v_rng 2 3 rfl (by omega) rfl (fun _ => z_nf ?_) (fun q => absurd hin q)
      refine rf_all hR (fun j x y => m_row _ _ _ y) (fun k x => m_col _ _ _ x) rfl (fun M6 hf => ?_)
      obtain ⟨f1, f2, f3, f4⟩ := id hf
      have e20 : M6.1 81 20 = nI nw := (f2 20 (by omega) (by omega) (by omega)).trans r4.2.2.2.1
      have g83 : M6.1 83 = M.1 83 := f1 83 (by omega) (by omega) (by omega)
      intro v7 e7
      rw [e20, all_mask hnw] at e7
      rw [e7]
      refine v_who e20 hnw (by rw [g83]; exact n3) n1 (fun i hi => ?_) ?_
      · obtain ⟨q1, q2, ⟨y, y1, y2⟩, q4⟩ := n4 i hi
        rw [g83]
        exact ⟨y, by omega, y2⟩
      · have e : whoS (fun s => alB (eR M6 nw s) n) (nI (2 ^ nw - 1)) (2 ^ nw) = whoS (fun s => alB (eC M nw s) n) (nI (2 ^ nw - 1)) (2 ^ nw) := whoS_cong _ (fun s hs => alB_cong n (fun i hi => by
          obtain ⟨q1, q2, ⟨y, y1, y2⟩, q4⟩ := n4 i hi
          unfold eR eC
          rw [g83, q1, q2, y2, nI_clamp (by omega)]
          have : hSm (fun j => M.1 (7 + j) y) (fun j => (nI s).toBitVec.toNat.testBit j) nw = hSm (fun j => M6.1 89 (48 * j + y)) (fun j => (nI s).toBitVec.toNat.testBit j) nw := hSm_cong nw (fun j hj => ⟨rL_uniq (r11 j hj) (f4 j hj) y y1, rfl⟩)
          rw [this]))
        rw [e]
        exact h2 _ (rf_Rel hR hf)
  · unfold w_X9_who
    intro M1 e1
    subst e1
    exact v_rng 2 3 rfl (by omega) rfl (fun q => absurd q hin) (fun _ => z_nt (h2 _ hthrE))
