/-! the reference's items -/
def tks (M : xMem) (x : Nat → Int32) (n p : Nat) : Prop := M.1 81 4 = nI (tkE x n p) ∧ M.1 81 6 = nI (tkS x n p) ∧ M.1 81 5 = nI (rTk (tkC x n p)) ∧ (tkC x n p = 2 → M.1 81 7 = nI (tkV x n p)) ∧ (4 ≤ tkC x n p → M.1 81 7 = rVl (tkC x n p))
/-- well, a token in hand; or a fault -/
def rAl (M : xMem) (x : Nat → Int32) (n p : Nat) : Prop := rTx M n x ∧ p ≤ n ∧ M.1 81 8 = -1 ∧ tks M x n p
def rDe (M : xMem) (st : Nat) : Prop := M.1 81 8 = nI st ∧ st < 1000
def rTo (M M' : xMem) : Prop := (∀ j, j ≠ 81 → M'.1 j = M.1 j) ∧ (∀ k, k ≠ 4 → k ≠ 5 → k ≠ 6 → k ≠ 7 → k ≠ 8 → M'.1 81 k = M.1 81 k) ∧ M'.2 = M.2
theorem rTo_rf {M : xMem} : rTo M M := ⟨fun _ _ => rfl, fun _ _ _ _ _ _ => rfl, rfl⟩
/-- what the reading of a hill may change in the reference -/
def rFr (M M' : xMem) : Prop := (∀ j, j ≠ 81 → j ≠ 84 → j ≠ 87 → j ≠ 88 → M'.1 j = M.1 j) ∧ (∀ k, (k = 1 ∨ k = 2 ∨ k = 3 ∨ (9 ≤ k ∧ k ≠ 12 ∧ k ≠ 13 ∧ k ≠ 22 ∧ k ≠ 23)) → M'.1 81 k = M.1 81 k) ∧ (∀ k, k < 24 → M'.1 87 k = M.1 87 k) ∧ (∀ k, k < 40 → M'.1 88 k = M.1 88 k) ∧ M'.2 = M.2
theorem rFr_rf {M : xMem} : rFr M M := ⟨fun _ _ _ _ _ => rfl, fun _ _ => rfl, fun _ _ => rfl, fun _ _ => rfl, rfl⟩
theorem rFr_tr {M M' M'' : xMem} (h : rFr M M') (h' : rFr M' M'') : rFr M M'' := ⟨fun j a b c d => (h'.1 j a b c d).trans (h.1 j a b c d), fun k a => (h'.2.1 k a).trans (h.2.1 k a), fun k a => (h'.2.2.1 k a).trans (h.2.2.1 k a), fun k a => (h'.2.2.2.1 k a).trans (h.2.2.2.1 k a), h'.2.2.2.2.trans h.2.2.2.2⟩
theorem rFr_T {M M' : xMem} (h : rTo M M') : rFr M M' := ⟨fun j a _ _ _ => h.1 j a, fun k a => h.2.1 k (by omega) (by omega) (by omega) (by omega) (by omega), fun k _ => by rw [h.1 87 (by omega)], fun k _ => by rw [h.1 88 (by omega)], h.2.2⟩
/-- the draft -/
def rDf (M : xMem) (w hg nw nd : Nat) (s wk dd : Nat → Int32) : Prop := (M.1 81 12 = nI w ∧ M.1 81 13 = nI hg ∧ M.1 81 22 = nI nw ∧ M.1 81 23 = nI nd) ∧ (∀ k, k < 207 → M.1 84 k = s k) ∧ (∀ k, k < 4 * nw → M.1 87 (24 + k) = wk k) ∧ (∀ k, k < 5 * nd → M.1 88 (40 + k) = dd k)
theorem rDf_T {M M' : xMem} {w hg nw nd : Nat} {s wk dd : Nat → Int32} (h : rTo M M') (hD : rDf M w hg nw nd s wk dd) : rDf M' w hg nw nd s wk dd := by
  unfold rDf
  rw [h.2.1 12 (by omega) (by omega) (by omega) (by omega) (by omega), h.2.1 13 (by omega) (by omega) (by omega) (by omega) (by omega), h.2.1 22 (by omega) (by omega) (by omega) (by omega) (by omega), h.2.1 23 (by omega) (by omega) (by omega) (by omega) (by omega), h.1 84 (by omega), h.1 87 (by omega), h.1 88 (by omega)]
  exact hD
theorem rAl_row {M M' : xMem} {x : Nat → Int32} {n p : Nat} (h : rAl M x n p) (e82 : M'.1 82 = M.1 82) (e81 : ∀ k, (k = 3 ∨ (4 ≤ k ∧ k ≤ 8)) → M'.1 81 k = M.1 81 k) : rAl M' x n p := by
  obtain ⟨⟨a1, a2, a3⟩, b, c, d⟩ := h
  unfold rAl rTx tks
  rw [e82, e81 3 (by omega), e81 4 (by omega), e81 5 (by omega), e81 6 (by omega), e81 7 (by omega), e81 8 (by omega)]
  exact ⟨⟨a1, a2, a3⟩, b, c, d⟩
theorem v_well {M : xMem} {x : Nat → Int32} {n p : Nat} {post : Int32 → xMem → Prop} (h : rAl M x n p) (hp : post 1 M) : w_X9_isWell M post := by
  unfold w_X9_isWell
  rw [h.2.2.1]
  exact ⟨fun z => absurd z (by decide), fun _ => hp⟩
theorem v_wellD {M : xMem} {st : Nat} {post : Int32 → xMem → Prop} (h : rDe M st) (hp : post 0 M) : w_X9_isWell M post := by
  obtain ⟨h1, h2⟩ := h
  unfold w_X9_isWell
  rw [h1]
  exact ⟨fun _ => hp, fun z => absurd (nI_pos' (by omega)) z⟩
theorem v_tk1 {M : xMem} {x : Nat → Int32} {n p : Nat} {post : Int32 → xMem → Prop} (h : rAl M x n p) (hp : ∀ M', rTo M M' → rAl M' x n (tkE x n p) → post (M.1 81 7) M') : w_X9_takes M 1 post := by
  obtain ⟨hT, hpn, h8, ht⟩ := id h
  have hE := (tkE_le (x := x) hpn).2
  unfold w_X9_takes
  refine v_well h ⟨fun _ => ⟨fun _ => ?_, fun z => absurd z (by decide)⟩, fun z => absurd z (by decide)⟩
  refine v_adv hT hE ht.1 (fun M' k => ?_)
  obtain ⟨k1, k2, k3, k4, k5, k6, k7, k8⟩ := k
  exact hp M' ⟨k1, fun k a b c d _ => k3 k a b c d, k2⟩ ⟨rTx_of hT (k3 3 (by omega) (by omega) (by omega) (by omega)) (k1 82 (by omega)), hE, (k3 8 (by omega) (by omega) (by omega) (by omega)).trans h8, k4, k5, k6, k7, k8⟩
theorem v_tk0 {M : xMem} {x : Nat → Int32} {n p : Nat} {post : Int32 → xMem → Prop} (h : rAl M x n p) (hp : ∀ M', rTo M M' → rDe M' (tkS x n p) → post 0 M') : w_X9_takes M 0 post := by
  obtain ⟨hT, hpn, h8, ht⟩ := id h
  have hS := (tkS_le (x := x) hpn).2
  have h400 := hT.2.1
  unfold w_X9_takes
  refine v_well h ⟨fun _ => ⟨fun z => absurd rfl z, fun _ M7 e7 => ?_⟩, fun z => absurd z (by decide)⟩
  rw [ht.2.1] at e7
  exact hp M7 ⟨fun j hj => by rw [e7, m_row _ _ _ hj], fun k _ _ _ _ k8 => by rw [e7, m_col _ _ _ k8], by rw [e7, m_snd]⟩ ⟨by rw [e7, m_same], by omega⟩
theorem v_tkD {M : xMem} {st : Nat} {s : Int32} {post : Int32 → xMem → Prop} (h : rDe M st) (hp : post 0 M) : w_X9_takes M s post := by
  unfold w_X9_takes
  exact v_wellD h ⟨fun z => absurd rfl z, fun _ => hp⟩
theorem rTk2 {c : Nat} (hc : c ≤ 13) : rTk c = 2 ↔ c = 2 := by
  have : ∀ c, c < 14 → (rTk c = 2 ↔ c = 2) := by decide
  exact this c (by omega)
theorem rTk3 {c : Nat} (hc : c ≤ 13) : rTk c = 3 ↔ c = 3 := by
  have : ∀ c, c < 14 → (rTk c = 3 ↔ c = 3) := by decide
  exact this c (by omega)
theorem rTk1 {c : Nat} (hc : c ≤ 13) : rTk c = 1 ↔ 4 ≤ c := by
  have : ∀ c, c < 14 → (rTk c = 1 ↔ 4 ≤ c) := by decide
  exact this c (by omega)
theorem rTk_lt {c : Nat} (hc : c ≤ 13) : rTk c < 10 := by
  have : ∀ c, c < 14 → rTk c < 10 := by decide
  exact this c (by omega)
/-- so far the checks went: j of them -/
def rJ (M : xMem) (x : Nat → Int32) (n p : Nat) (ck : Nat → Prop) (j : Nat) : Prop := (al ck j ∧ rAl M x n (ps x n p (j + 1))) ∨ ∃ st, fl x n p ck j st ∧ rDe M st
theorem fl_up {x : Nat → Int32} {n p m m' st : Nat} {ck : Nat → Prop} (h : fl x n p ck m st) (hm : m ≤ m') : fl x n p ck m' st := by
  obtain ⟨j, j1, j2⟩ := h
  exact ⟨j, by omega, j2⟩
theorem rJ_row {M M' : xMem} {x : Nat → Int32} {n p j : Nat} {ck : Nat → Prop} (h : rJ M x n p ck j) (e82 : M'.1 82 = M.1 82) (e81 : ∀ k, (k = 3 ∨ (4 ≤ k ∧ k ≤ 8)) → M'.1 81 k = M.1 81 k) : rJ M' x n p ck j := by
  rcases h with ⟨a, b⟩ | ⟨st, a, b⟩
  · exact Or.inl ⟨a, rAl_row b e82 e81⟩
  · refine Or.inr ⟨st, a, ?_⟩
    unfold rDe
    rw [e81 8 (by omega)]
    exact b
theorem al_dn {ck : Nat → Prop} {m m' : Nat} (h : al ck m') (hm : m ≤ m') : al ck m := fun i a b => h i a (by omega)
/-- take, if a check holds -/
theorem v_take {M : xMem} {x : Nat → Int32} {n p j : Nat} {ck : Nat → Prop} {s : Int32} {post : Int32 → xMem → Prop} (hJ : rJ M x n p ck j) (h1 : al ck j → rAl M x n (ps x n p (j + 1)) → (ck (j + 1) → s = 1) ∧ (¬ ck (j + 1) → s = 0)) (hp : ∀ z M', rTo M M' → rJ M' x n p ck (j + 1) → ((al ck (j + 1) → z = M.1 81 7 ∧ rAl M x n (ps x n p (j + 1))) ∧ (¬ al ck (j + 1) → z = 0)) → post z M') : w_X9_takes M s post := by
  rcases hJ with ⟨a, b⟩ | ⟨st, a, b⟩
  · obtain ⟨s1, s0⟩ := h1 a b
    by_cases c : ck (j + 1)
    · rw [s1 c]
      exact v_tk1 b (fun M' k q => hp _ M' k (Or.inl ⟨al_S a c, q⟩) ⟨fun _ => ⟨rfl, b⟩, fun z => absurd (al_S a c) z⟩)
    · rw [s0 c]
      exact v_tk0 b (fun M' k q => hp _ M' k (Or.inr ⟨_, ⟨j, by omega, a, c, rfl⟩, q⟩) ⟨fun z => absurd (z (j + 1) (by omega) (by omega)) c, fun _ => rfl⟩)
  · exact v_tkD b (hp _ M rTo_rf (Or.inr ⟨st, fl_up a (by omega), b⟩) ⟨fun z => (fl_no a (al_dn z (by omega))).elim, fun _ => rfl⟩)
theorem v_nm {M : xMem} {x : Nat → Int32} {n p j lo hi : Nat} {ck : Nat → Prop} {l h : Int32} {post : Int32 → xMem → Prop} (hJ : rJ M x n p ck j) (hck : ck (j + 1) ↔ tN x n (ps x n p (j + 1)) lo hi) (hb : al ck j → (l = nI lo ∧ h = nI hi) ∧ lo < 1000 ∧ hi < 1000) (hp : ∀ z M', rTo M M' → rJ M' x n p ck (j + 1) → ((al ck (j + 1) → z = nI (tkV x n (ps x n p (j + 1)))) ∧ (¬ al ck (j + 1) → z = 0)) → post z M') : w_X9_number M l h post := by
  have h13 := tkC_le (x := x) (n := n) (p := ps x n p (j + 1))
  have go : ∀ s : Int32, (al ck j → rAl M x n (ps x n p (j + 1)) → (ck (j + 1) → s = 1) ∧ (¬ ck (j + 1) → s = 0)) → b_X9_number_26 post M s := fun s hs => by
    unfold b_X9_number_26
    refine v_take hJ hs (fun z M' k q e => hp z M' k q ⟨fun a => ?_, e.2⟩)
    obtain ⟨e1, e2⟩ := e.1 a
    rw [e1]
    exact e2.2.2.2.2.2.2.1 (hck.mp (a (j + 1) (by omega) (by omega))).1
  unfold w_X9_number b_X9_number_25
  refine ⟨fun ne => go 0 (fun a b => ⟨fun c => ?_, fun _ => rfl⟩), fun e => ?_⟩
  · have t := hck.mp c
    rw [b.2.2.2.2.2.1, (rTk2 h13).mpr t.1] at ne
    exact absurd rfl ne
  · refine u_in (fun x1 x2 => z_f (go 1 (fun a b => ⟨fun _ => rfl, fun c => ?_⟩))) (fun q => z_t (go 0 (fun a b => ⟨fun c => ?_, fun _ => rfl⟩)))
    · exfalso
      rw [b.2.2.2.2.2.1] at e
      have := rTk_lt h13
      have c2 := (rTk2 h13).mp (q_inj (a := rTk (tkC x n (ps x n p (j + 1)))) (b := 2) (by omega) (by omega) e)
      have v99 := tkV_le c2
      obtain ⟨⟨rfl, rfl⟩, b1, b2⟩ := hb a
      rw [b.2.2.2.2.2.2.1 c2] at x1 x2
      exact c (hck.mpr ⟨c2, (nI_cond (by omega) (by omega)).mp x1, (nI_cond (by omega) (by omega)).mp x2⟩)
    · exfalso
      have t := hck.mp c
      obtain ⟨⟨rfl, rfl⟩, b1, b2⟩ := hb a
      have v99 := tkV_le t.1
      rw [b.2.2.2.2.2.2.1 t.1] at q
      exact q ⟨nI_le t.2.1 (by omega), nI_le t.2.2 (by omega)⟩
/-- behind an item -/
theorem v_156 {M : xMem} {x : Nat → Int32} {n p m : Nat} {ck : Nat → Prop} {i : Nat} {post : Int32 → xMem → Prop} {r : xMem → Int32 → Prop} (hJ : rJ M x n p ck m) (hck : ck (m + 1) ↔ tkC x n (ps x n p (m + 1)) = 3) (hok : al ck (m + 1) → ∀ M', rTo M M' → rAl M' x n (ps x n p (m + 2)) → r M' (nI (i + 1))) (hbad : ∀ st M', fl x n p ck (m + 1) st → rTo M M' → rDe M' st → r M' (nI (i + 1))) : b_X9_hill_156 post r M (nI i) := by
  have h13 := tkC_le (x := x) (n := n) (p := ps x n p (m + 1))
  have go : ∀ s : Int32, (al ck m → rAl M x n (ps x n p (m + 1)) → (ck (m + 1) → s = 1) ∧ (¬ ck (m + 1) → s = 0)) → b_X9_hill_170 post r M (nI i) s := fun s hs => by
    unfold b_X9_hill_170
    rw [nI_1]
    refine v_take hJ hs (fun z M' k q e => ?_)
    rcases q with ⟨a, b⟩ | ⟨st, a, b⟩
    · exact hok a M' k b
    · exact hbad st M' a k b
  unfold b_X9_hill_156
  refine ⟨fun ne => go 0 (fun a b => ⟨fun c => ?_, fun _ => rfl⟩), fun e => go 1 (fun a b => ⟨fun _ => rfl, fun c => ?_⟩)⟩
  · rw [b.2.2.2.2.2.1, (rTk3 h13).mpr (hck.mp c)] at ne
    exact absurd rfl ne
  · exfalso
    rw [b.2.2.2.2.2.1] at e
    have := rTk_lt h13
    exact c (hck.mpr ((rTk3 h13).mp (q_inj (a := rTk (tkC x n (ps x n p (m + 1)))) (b := 3) (by omega) (by omega) e)))
/-- an item's word -/
def may (c i nw nd : Nat) : Prop := (c = 4 ∧ i = 0) ∨ c = 5 ∨ c = 6 ∨ c = 7 ∨ (c = 12 ∧ nw < 6) ∨ (c = 13 ∧ nd < 8)
theorem v_121 {M : xMem} {x : Nat → Int32} {n p i : Nat} {post : Int32 → xMem → Prop} {r : xMem → Int32 → Prop} (hA : rAl M x n p) (hc : 4 ≤ tkC x n p) (h : ∀ M', rTo M M' → rAl M' x n (tkE x n p) → w_X9_readsItem M' (rVl (tkC x n p)) (fun M7 => b_X9_hill_156 post r M7 (nI i))) : b_X9_hill_121 post r M (nI i) 1 := by
  have h13 := tkC_le (x := x) (n := n) (p := p)
  unfold b_X9_hill_121
  rw [hA.2.2.2.2.2.1, (rTk1 h13).mpr hc]
  refine ⟨fun z => absurd rfl z, fun _ => ⟨fun z => absurd z (by decide), fun _ => ?_⟩⟩
  unfold b_X9_hill_140
  refine v_tk1 hA (fun M' k q => v_well q ⟨fun z => absurd z (by decide), fun _ => ?_⟩)
  rw [hA.2.2.2.2.2.2.2 hc]
  exact h M' k q
theorem v_121b {M : xMem} {x : Nat → Int32} {n p i : Nat} {s0 : Int32} {post : Int32 → xMem → Prop} {r : xMem → Int32 → Prop} (hA : rAl M x n p) (hc : ¬ 4 ≤ tkC x n p ∨ s0 = 0) (hbad : ∀ M', rTo M M' → rDe M' (tkS x n p) → r M' (nI (i + 1))) : b_X9_hill_121 post r M (nI i) s0 := by
  have h13 := tkC_le (x := x) (n := n) (p := p)
  have b139 : b_X9_hill_139 post r M (nI i) := by
    unfold b_X9_hill_139 b_X9_hill_140
    refine v_tk0 hA (fun M' k q => v_wellD q ⟨fun _ => ?_, fun z => absurd rfl z⟩)
    unfold b_X9_hill_156 b_X9_hill_170
    rw [nI_1]
    exact ⟨fun _ => v_tkD q (hbad M' k q), fun _ => v_tkD q (hbad M' k q)⟩
  unfold b_X9_hill_121
  refine ⟨fun _ => b139, fun e => ⟨fun _ => b139, fun n0 => ?_⟩⟩
  rcases hc with hc | hc
  · rw [hA.2.2.2.2.2.1] at e
    have := rTk_lt h13
    exact absurd ((rTk1 h13).mp (q_inj (a := rTk (tkC x n p)) (b := 1) (by omega) (by omega) e)) hc
  · exact absurd hc n0
theorem v_25 {M : xMem} {x : Nat → Int32} {n p i w hg nw nd : Nat} {s wk dd : Nat → Int32} {post : Int32 → xMem → Prop} {r : xMem → Int32 → Prop} (hi : i < 1000) (hA : rAl M x n p) (hD : rDf M w hg nw nd s wk dd) (hnw : nw ≤ 6) (hnd : nd ≤ 8) (h0 : tkC x n p ≠ 0) (hok : may (tkC x n p) i nw nd → ∀ M', rTo M M' → rAl M' x n (tkE x n p) → w_X9_readsItem M' (rVl (tkC x n p)) (fun M7 => b_X9_hill_156 post r M7 (nI i))) (hbad : ¬ may (tkC x n p) i nw nd → ∀ M', rTo M M' → rDe M' (tkS x n p) → r M' (nI (i + 1))) : b_X9_hill_25 post r M (nI i) := by
  have h13 := tkC_le (x := x) (n := n) (p := p)
  obtain ⟨⟨-, -, d22, d23⟩, -⟩ := hD
  unfold b_X9_hill_25
  refine v_well hA ⟨fun z => absurd z (by decide), fun _ => ?_⟩
  have t0 : ¬ M.1 81 5 = 0 := fun e => by
    rw [hA.2.2.2.2.2.1] at e
    have h := rTk_lt h13
    have : rTk (tkC x n p) = 0 := q_inj (b := 0) (by omega) (by omega) e
    have nz : ∀ c, c < 14 → c ≠ 0 → rTk c ≠ 0 := by decide
    exact nz _ (by omega) h0 this
  refine ⟨fun e => absurd e t0, fun _ => ?_⟩
  by_cases hc : 4 ≤ tkC x n p
  · have ev : M.1 81 7 = rVl (tkC x n p) := hA.2.2.2.2.2.2.2 hc
    have ok : may (tkC x n p) i nw nd → b_X9_hill_121 post r M (nI i) 1 := fun m => v_121 hA hc (hok m)
    have no : ¬ may (tkC x n p) i nw nd → b_X9_hill_121 post r M (nI i) 0 := fun m => v_121b hA (Or.inr rfl) (hbad m)
    rw [ev, d22, d23]
    have i0 : (nI i = 0) ↔ i = 0 := nI_eq (b := 0) (by omega) (by omega)
    have i6 : ((6 : Int32) ≤ nI nw) ↔ 6 ≤ nw := nI_leI (a := 6) (by omega) (by omega)
    have i8 : ((8 : Int32) ≤ nI nd) ↔ 8 ≤ nd := nI_leI (a := 8) (by omega) (by omega)
    unfold may at ok no
    rcases (show tkC x n p = 4 ∨ tkC x n p = 5 ∨ tkC x n p = 6 ∨ tkC x n p = 7 ∨ tkC x n p = 8 ∨ tkC x n p = 9 ∨ tkC x n p = 10 ∨ tkC x n p = 11 ∨ tkC x n p = 12 ∨ tkC x n p = 13 by omega) with e | e | e | e | e | e | e | e | e | e
    · rw [e] at ok no ⊢
      exact ⟨fun z => absurd rfl z, fun _ => ⟨fun z => no (fun y => z (i0.mpr (by omega))), fun z => ok (by have := i0.mp z; omega)⟩⟩
    · rw [e] at ok no ⊢
      exact ⟨fun _ => ⟨fun _ => ⟨fun _ => ⟨fun z => absurd z (by decide), fun _ => ok (by omega)⟩, fun z => absurd z (by decide)⟩, fun z => absurd z (by decide)⟩, fun z => absurd z (by decide)⟩
    · rw [e] at ok no ⊢
      exact ⟨fun _ => ⟨fun _ => ⟨fun _ => ⟨fun z => absurd z (by decide), fun _ => ok (by omega)⟩, fun z => absurd z (by decide)⟩, fun z => absurd z (by decide)⟩, fun z => absurd z (by decide)⟩
    · rw [e] at ok no ⊢
      exact ⟨fun _ => ⟨fun _ => ⟨fun _ => ⟨fun z => absurd z (by decide), fun _ => ok (by omega)⟩, fun z => absurd z (by decide)⟩, fun z => absurd z (by decide)⟩, fun z => absurd z (by decide)⟩
    · rw [e] at ok no ⊢
      exact ⟨fun _ => ⟨fun _ => ⟨fun _ => ⟨fun _ => no (by omega), fun z => absurd (by decide) z⟩, fun z => absurd z (by decide)⟩, fun z => absurd z (by decide)⟩, fun z => absurd z (by decide)⟩
    · rw [e] at ok no ⊢
      exact ⟨fun _ => ⟨fun _ => ⟨fun _ => ⟨fun _ => no (by omega), fun z => absurd (by decide) z⟩, fun z => absurd z (by decide)⟩, fun z => absurd z (by decide)⟩, fun z => absurd z (by decide)⟩
    · rw [e] at ok no ⊢
      exact ⟨fun _ => ⟨fun _ => ⟨fun _ => ⟨fun _ => no (by omega), fun z => absurd (by decide) z⟩, fun z => absurd z (by decide)⟩, fun z => absurd z (by decide)⟩, fun z => absurd z (by decide)⟩
    · rw [e] at ok no ⊢
      exact ⟨fun _ => ⟨fun _ => ⟨fun _ => ⟨fun _ => no (by omega), fun z => absurd (by decide) z⟩, fun z => absurd z (by decide)⟩, fun z => absurd z (by decide)⟩, fun z => absurd z (by decide)⟩
    · rw [e] at ok no ⊢
      exact ⟨fun _ => ⟨fun z => absurd rfl z, fun _ => ⟨fun z => no (by have := i6.mp z; omega), fun z => ok (by have : ¬ 6 ≤ nw := fun y => z (i6.mpr y); omega)⟩⟩, fun z => absurd z (by decide)⟩
    · rw [e] at ok no ⊢
      exact ⟨fun _ => ⟨fun _ => ⟨fun z => absurd rfl z, fun _ => ⟨fun z => no (by have := i8.mp z; omega), fun z => ok (by have : ¬ 8 ≤ nd := fun y => z (i8.mpr y); omega)⟩⟩, fun z => absurd z (by decide)⟩, fun z => absurd z (by decide)⟩
  · have nm : ¬ may (tkC x n p) i nw nd := fun m => hc (by unfold may at m; omega)
    have no : ∀ s0, b_X9_hill_121 post r M (nI i) s0 := fun s0 => v_121b hA (Or.inl hc) (hbad nm)
    exact ⟨fun _ => ⟨fun _ => ⟨fun _ => ⟨fun _ => no _, fun _ => no _⟩, fun _ => ⟨fun _ => no _, fun _ => no _⟩⟩, fun _ => ⟨fun _ => no _, fun _ => no _⟩⟩, fun _ => ⟨fun _ => no _, fun _ => no _⟩⟩
