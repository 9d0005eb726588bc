/-! the class's sweep on -/
theorem u_less {M : xMem} {f : Nat} {x : Int32} {post : Int32 → xMem → Prop} (e : M.1 5 2 = nI f) (hf : f < 10) (hx : x ∈ [(-2 : Int32), -1, 0, 1, 2]) (hp : post (nI (lessI f x.toInt)) M) : w_X6_lossWith M x post := by
  unfold w_X6_lossWith
  rw [e, less_c f hf x hx]
  exact hp
/-- what holds in a sweep on: the edges done are closed at the table of now -/
def onI (R N w f : Nat) (s : Nat → Int32) (src z : Nat) (M0 Mr M : xMem) (D : Nat → Nat → Prop) : Prop := rSS R 0 N (nbE w) (passN w f s) src z M0 M ∧ (∀ y, y < N → rsT R 0 Mr y ≤ rsT R 0 M y) ∧ ∀ a b, a < N → b < N → a < b → nbE w a b → D a b → passN w f s a b (rsT R 0 M a) ≤ rsT R 0 M b
theorem on_carry {M0 Mr M : xMem} {h R N w f a b src z : Nat} {s : Nat → Int32} {D D' : Nat → Nat → Prop} {bd ls : Int32} {post : Int32 → xMem → Prop} (hw : 1 ≤ w) (hf : f < 10) (hN : N ≤ 48) (hR10 : kd R = 10) (hR48 : ln R = 48) (hkd : kd (h + 1) = 0) (hz : z < 1000) (ha : a < N) (hb : b < N) (hab : a < b) (hS : rS s) (hG : rG (M.1 (h + 2)) (M.1 (h + 3)) (M.1 (h + 1) 2) (M.1 (h + 1) 3) s) (hI : onI R N w f s src z M0 Mr M D) (he : nbE w a b) (hbd : bd = nI (2 * loN a b + if nbAl w a b = true then 1 else 0)) (hls : ls = nI (lessI f (if a < b then (s (if nbAl w a b = true then 193 else 192)).toInt else -(s (if nbAl w a b = true then 193 else 192)).toInt))) (hD : ∀ a' b', D a' b' → a' ≤ a) (hD' : ∀ a' b', a' < b' → nbE w a' b' → D' a' b' → D a' b' ∨ (a' = a ∧ b' = b)) (hp : ∀ v M', onI R N w f s src z M0 Mr M' D' → post v M') : w_X6_carry M (h + 1) bd R (nI a) (nI b) ls post := by
  obtain ⟨hM, hT, hE⟩ := hI
  have hpp := passN_p w f s
  rw [hbd, hls]
  refine u_carry hw hf hN hR10 hR48 hkd hz ha hb hS hG hM he (fun q => hp _ _ ⟨?_, fun y hy => ?_, fun a' b' ha' hb' hlt he' hd => ?_⟩) (fun q => hp _ _ ⟨hM, hT, fun a' b' ha' hb' hlt he' hd => ?_⟩)
  · have := rSS_set hpp hz hM ha hb he (Nat.le_of_lt q)
    rw [Nat.zero_add] at this
    exact this
  · have hs : passN w f s a b (rsT R 0 M a) < 1000000 := by
      have h1 := hpp.2 a b (rsT R 0 M a)
      have h2 := rSS_top hpp hM ha
      omega
    have e := rsT_set (R := R) (o := 0) (b := b) (M := M) hs y
    rw [Nat.zero_add] at e
    rw [e]
    have := hT y hy
    split
    · next e => subst e; omega
    · exact this
  · have hs : passN w f s a b (rsT R 0 M a) < 1000000 := by
      have h1 := hpp.2 a b (rsT R 0 M a)
      have h2 := rSS_top hpp hM ha
      omega
    have e := fun y => rsT_set (R := R) (o := 0) (b := b) (M := M) hs y
    rw [Nat.zero_add] at e
    rw [e, e]
    rcases hD' a' b' hlt he' hd with d | ⟨rfl, rfl⟩
    · have := hD a' b' d
      have o := hE a' b' ha' hb' hlt he' d
      rw [if_neg (by omega)]
      split
      · next e => subst e; omega
      · exact o
    · rw [if_neg (by omega), if_pos rfl]
      exact Nat.le_refl _
  · rcases hD' a' b' hlt he' hd with d | ⟨rfl, rfl⟩
    · exact hE a' b' ha' hb' hlt he' d
    · exact q
theorem onI_weak {R N w f src z : Nat} {s : Nat → Int32} {M0 Mr M : xMem} {D D' : Nat → Nat → Prop} (h : onI R N w f s src z M0 Mr M D) (hd : ∀ a b, a < N → b < N → a < b → nbE w a b → D' a b → D a b) : onI R N w f s src z M0 Mr M D' := ⟨h.1, h.2.1, fun a b ha hb hlt he d => h.2.2 a b ha hb hlt he (hd a b ha hb hlt he d)⟩
theorem u_sweepOn {M0 M : xMem} {h R w hg f src z : Nat} {s : Nat → Int32} {post : xMem → Prop} (hw : 1 ≤ w) (hw2 : w ≤ 8) (hg2 : hg ≤ 6) (hf : f < 10) (hN : w * hg ≤ 48) (hk : kd h = 2) (hR10 : kd R = 10) (hR48 : ln R = 48) (hkd : kd (h + 1) = 0) (hRh : R ≠ h ∧ R ≠ h + 1 ∧ R ≠ h + 2 ∧ R ≠ h + 3 ∧ R ≠ 5) (hz : z < 1000) (hS : rS s) (e0 : M0.1 h 0 = nI w) (e1 : M0.1 h 1 = nI hg) (e5 : M0.1 5 2 = nI f) (hG : rG (M0.1 (h + 2)) (M0.1 (h + 3)) (M0.1 (h + 1) 2) (M0.1 (h + 1) 3) s) (hM : rSS R 0 (w * hg) (nbE w) (passN w f s) src z M0 M) (hK : ∀ M', onI R (w * hg) w f s src z M0 M M' (fun _ _ => True) → post M') : w_X6_sweepOn M h R post := by
  obtain ⟨q0, q1, q2, q3, q5⟩ := hRh
  have rows : ∀ M' D, onI R (w * hg) w f s src z M0 M M' D → M'.1 h 0 = nI w ∧ M'.1 h 1 = nI hg ∧ rG (M'.1 (h + 2)) (M'.1 (h + 3)) (M'.1 (h + 1) 2) (M'.1 (h + 1) 3) s := fun M' D hI => by
    have g := hI.1.1
    rw [g h (Ne.symm q0), g (h + 1) (Ne.symm q1), g (h + 2) (Ne.symm q2), g (h + 3) (Ne.symm q3)]
    exact ⟨e0, e1, hG⟩
  have g := hM.1
  have b1 := wd_five hS.2.2.1.1 hS.2.2.1.2
  have b2 := wd_five hS.2.2.2.1 hS.2.2.2.2
  unfold w_X6_sweepOn
  rw [g (h + 1) (Ne.symm q1), hG.2.2.1]
  refine ⟨hk, u_less (by rw [g 5 (Ne.symm q5)]; exact e5) hf b1 ?_⟩
  show w_X6_lossWith M (M.1 (h + 1) 3) _
  rw [g (h + 1) (Ne.symm q1), hG.2.2.2]
  refine u_less (by rw [g 5 (Ne.symm q5)]; exact e5) hf b2 ?_
  refine xlp7_of (I := fun M' a b c x1 x2 q => a = h ∧ b = R ∧ c = h + 1 ∧ x1 = nI (lessI f (s 192).toInt) ∧ x2 = nI (lessI f (s 193).toInt) ∧ ∃ y, y ≤ hg ∧ q = nI y ∧ onI R (w * hg) w f s src z M0 M M' (fun a _ => a < w * y)) (mu := fun _ _ _ _ _ _ q => hg - q.toNatClampNeg) ?_ ⟨rfl, rfl, rfl, rfl, rfl, 0, Nat.zero_le _, rfl, hM, fun _ _ => Nat.le_refl _, fun a b ha hb hlt he d => absurd d (by rw [Nat.mul_zero]; exact Nat.not_lt_zero _)⟩
  intro r M1 a b c x1 x2 q hI hr
  obtain ⟨rfl, rfl, rfl, rfl, rfl, y, hy, rfl, hI⟩ := hI
  obtain ⟨m0, m1, mG⟩ := rows M1 _ hI
  unfold b_X6_sweepOn_28
  rw [m1]
  refine ⟨hk, fun q => ?_, fun q => ?_⟩
  · have e : y = hg := Nat.le_antisymm hy ((nI_cond (by omega) (by omega)).mp q)
    subst e
    exact hK M1 (onI_weak hI (fun a b ha hb hlt he d => ha))
  · have hly : y < hg := Nat.lt_of_not_le (fun q2 => q ((nI_cond (by omega) (by omega)).mpr q2))
    have hyw : w * y + w ≤ w * hg := by
      rw [← Nat.mul_succ]
      exact Nat.mul_le_mul_left w hly
    refine xlp8_of (I := fun M' a' b' c' x1 x2 q6 q => a' = a ∧ b' = b ∧ c' = a + 1 ∧ x1 = nI (lessI f (s 192).toInt) ∧ x2 = nI (lessI f (s 193).toInt) ∧ q6 = nI y ∧ ∃ x, x ≤ w ∧ q = nI x ∧ onI b (w * hg) w f s src z M0 M M' (fun a _ => a < w * y + x)) (mu := fun _ _ _ _ _ _ _ q => w - q.toNatClampNeg) ?_ ⟨rfl, rfl, rfl, rfl, rfl, rfl, 0, Nat.zero_le _, rfl, hI⟩
    intro r2 M2 a' b' c' x1 x2 q6 q hI hr2
    obtain ⟨rfl, rfl, rfl, rfl, rfl, rfl, x, hx, rfl, hI⟩ := hI
    obtain ⟨n0, n1, nG⟩ := rows M2 _ hI
    have yard : nI w * nI y + nI x = nI (w * y + x) := by rw [pk_mul, nI_add]
    have modx : x < w → (w * y + x) % w = x := fun hx => by rw [Nat.mul_add_mod, Nat.mod_eq_of_lt hx]
    unfold b_X6_sweepOn_40
    rw [n0, yard]
    refine ⟨hk, fun q => ?_, fun q => ?_⟩
    · have e : x = w := Nat.le_antisymm hx ((nI_cond (by omega) (by omega)).mp q)
      subst e
      rw [nI_1]
      refine hr M2 _ _ _ _ _ _ ⟨rfl, rfl, rfl, rfl, rfl, y + 1, hly, rfl, onI_weak hI (fun a b ha hb hlt he d => by rw [Nat.mul_succ] at d; exact d)⟩ ?_
      show hg - (nI (y + 1)).toNatClampNeg < hg - (nI y).toNatClampNeg
      rw [nI_clamp (by omega), nI_clamp (by omega)]
      omega
    · have hlx : x < w := Nat.lt_of_not_le (fun q2 => q ((nI_cond (by omega) (by omega)).mpr q2))
      have mx := modx hlx
      have two : (2 : Int32) * nI (w * y + x) = nI (2 * (w * y + x)) := by rw [show (2 : Int32) = nI 2 from rfl, pk_mul]
      have next : ∀ M3, onI b' (w * hg) w f s src z M0 M M3 (fun a _ => a < w * y + x + 1) → b_X6_sweepOn_128 post r r2 M3 a' b' (a' + 1) (nI (lessI f (s 192).toInt)) (nI (lessI f (s 193).toInt)) (nI y) (nI x) := fun M3 h3 => by
        unfold b_X6_sweepOn_128
        rw [nI_1]
        refine hr2 M3 _ _ _ _ _ _ _ ⟨rfl, rfl, rfl, rfl, rfl, rfl, x + 1, hlx, rfl, h3⟩ ?_
        show w - (nI (x + 1)).toNatClampNeg < w - (nI x).toNatClampNeg
        rw [nI_clamp (by omega), nI_clamp (by omega)]
        omega
      have down : ∀ M3, onI b' (w * hg) w f s src z M0 M M3 (fun a b => a < w * y + x ∨ (a = w * y + x ∧ b ≠ a + w)) → b_X6_sweepOn_99 post r r2 M3 a' b' (a' + 1) (nI (lessI f (s 192).toInt)) (nI (lessI f (s 193).toInt)) (nI y) (nI x) (nI (w * y + x)) (nI (w * y + x) + nI w) := fun M3 h3 => by
        obtain ⟨p0, p1, pG⟩ := rows M3 _ h3
        unfold b_X6_sweepOn_99
        rw [p1, nI_1, two, nI_1, nI_add]
        refine ⟨hk, fun q => next M3 (onI_weak h3 (fun a b ha hb hlt he d => ?_)), fun q => ?_⟩
        · have hh : hg ≤ y + 1 := (nI_cond (by omega) (by omega)).mp q
          by_cases e : a = w * y + x
          · refine Or.inr ⟨e, fun eb => ?_⟩
            have : w * hg ≤ w * (y + 1) := Nat.mul_le_mul_left w hh
            rw [Nat.mul_succ] at this
            omega
          · exact Or.inl (by omega)
        · have hh : y + 1 < hg := Nat.lt_of_not_le (fun q2 => q ((nI_cond (by omega) (by omega)).mpr q2))
          have hn : w * (y + 1) + w ≤ w * hg := by
            rw [← Nat.mul_succ]
            exact Nat.mul_le_mul_left w hh
          rw [Nat.mul_succ] at hn
          have lo : loN (w * y + x) (w * y + x + w) = w * y + x := by unfold loN; rw [if_pos (by omega)]
          have al : nbAl w (w * y + x) (w * y + x + w) = true := by unfold nbAl; simp
          refine on_carry hw hf hN hR10 hR48 hkd hz (by omega) (by omega) (by omega) hS pG h3 (Or.inl (Or.inl rfl)) (by rw [lo, if_pos al]) (by rw [if_pos al, if_pos (by omega)]) (fun a' b' d => by omega) (fun a' b' hlt he d => ?_) (fun v M' hM' => next M' hM')
          by_cases e : a' = w * y + x
          · by_cases eb : b' = w * y + x + w
            · exact Or.inr ⟨e, eb⟩
            · exact Or.inl (Or.inr ⟨e, by omega⟩)
          · exact Or.inl (Or.inl (by omega))
      rw [nI_1]
      refine ⟨fun q => down M2 (onI_weak hI (fun a b ha hb hlt he d => ?_)), fun q => ?_⟩
      · have hh : w ≤ x + 1 := (nI_cond (by omega) (by omega)).mp q
        rcases d with d | ⟨e, ne⟩
        · exact d
        · rcases he with (e2 | e2) | ⟨e2, e3⟩ | ⟨e2, e3⟩
          · exact absurd e2 ne
          · omega
          · rw [e, mx] at e3
            omega
          · omega
      · have hh : x + 1 < w := Nat.lt_of_not_le (fun q2 => q ((nI_cond (by omega) (by omega)).mpr q2))
        have lo : loN (w * y + x) (w * y + x + 1) = w * y + x := by unfold loN; rw [if_pos (by omega)]
        have al : ¬ nbAl w (w * y + x) (w * y + x + 1) = true := by
          unfold nbAl
          rw [Bool.or_eq_true, decide_eq_true_eq, decide_eq_true_eq]
          omega
        rw [two, nI_1]
        refine on_carry hw hf hN hR10 hR48 hkd hz (by omega) (by omega) (by omega) hS nG hI (Or.inr (Or.inl ⟨rfl, by rw [mx]; omega⟩)) (by rw [lo, if_neg al]; rfl) (by rw [if_neg al, if_pos (by omega)]) (fun a' b' d => by omega) (fun a' b' hlt he d => ?_) (fun v M' hM' => down M' hM')
        rcases d with d | ⟨e, ne⟩
        · exact Or.inl d
        · rcases he with (e2 | e2) | ⟨e2, e3⟩ | ⟨e2, e3⟩
          · exact absurd e2 ne
          · omega
          · exact Or.inr ⟨e, by omega⟩
          · omega
