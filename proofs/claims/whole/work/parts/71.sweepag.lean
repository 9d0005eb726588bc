/-! the class's sweep against -/
def agI (R N w f : Nat) (s : Nat → Int32) (src z : Nat) (M0 Mr M : xMem) (fl : Int32) (D : Nat → Nat → Prop) : Prop := rSS R 0 N (nbE w) (passN w f s) src z M0 M ∧ (∀ y, y < N → rsT R 0 Mr y ≤ rsT R 0 M y) ∧ ((fl = 0 ∧ ∀ y, y < N → rsT R 0 M y = rsT R 0 Mr y) ∨ fl = 1) ∧ ∀ a b, a < N → b < N → b < a → nbE w a b → D b a → passN w f s a b (rsT R 0 Mr a) ≤ rsT R 0 M b
theorem ag_carry {M0 Mr M : xMem} {h R N w f a b src z : Nat} {s : Nat → Int32} {D D' : Nat → Nat → Prop} {bd ls fl : Int32} {post : Int32 → xMem → Prop} (hw : 1 ≤ w) (hf : f < 10) (hN : N ≤ 48) (hR10 : kd R = 10) (hR48 : ln R = 48) (hkd : kd (h + 1) = 0) (hz : z < 1000) (ha : a < N) (hb : b < N) (hS : rS s) (hG : rG (M.1 (h + 2)) (M.1 (h + 3)) (M.1 (h + 1) 2) (M.1 (h + 1) 3) s) (hI : agI R N w f s src z M0 Mr M fl D) (he : nbE w a b) (hbd : bd = nI (2 * loN a b + if nbAl w a b = true then 1 else 0)) (hls : ls = nI (lessI f (if a < b then (s (if nbAl w a b = true then 193 else 192)).toInt else -(s (if nbAl w a b = true then 193 else 192)).toInt))) (hD' : ∀ b' a', b' < a' → nbE w a' b' → D' b' a' → D b' a' ∨ (a' = a ∧ b' = b)) (hp1 : ∀ M', agI R N w f s src z M0 Mr M' 1 D' → post 1 M') (hp0 : ∀ M', agI R N w f s src z M0 Mr M' fl D' → post 0 M') : w_X6_carry M (h + 1) bd R (nI a) (nI b) ls post := by
  obtain ⟨hM, hT, hF, hE⟩ := hI
  have hpp := passN_p w f s
  rw [hbd, hls]
  refine u_carry hw hf hN hR10 hR48 hkd hz ha hb hS hG hM he (fun q => hp1 _ ⟨?_, fun y hy => ?_, Or.inr rfl, fun a' b' ha' hb' hlt he' hd => ?_⟩) (fun q => hp0 _ ⟨hM, hT, hF, fun a' b' ha' hb' hlt he' hd => ?_⟩)
  · have := rSS_set hpp hz hM ha hb he (Nat.le_of_lt q)
    rw [Nat.zero_add] at this
    exact this
  · have hs : passN w f s a b (rsT R 0 M a) < 1000000 := by
      have h1 := hpp.2 a b (rsT R 0 M a)
      have h2 := rSS_top hpp hM ha
      omega
    have e := rsT_set (R := R) (o := 0) (b := b) (M := M) hs y
    rw [Nat.zero_add] at e
    rw [e]
    have := hT y hy
    split
    · next e => subst e; omega
    · exact this
  · have hs : passN w f s a b (rsT R 0 M a) < 1000000 := by
      have h1 := hpp.2 a b (rsT R 0 M a)
      have h2 := rSS_top hpp hM ha
      omega
    have e := fun y => rsT_set (R := R) (o := 0) (b := b) (M := M) hs y
    rw [Nat.zero_add] at e
    rw [e]
    rcases hD' b' a' hlt he' hd with d | ⟨rfl, rfl⟩
    · have o := hE a' b' ha' hb' hlt he' d
      split
      · next e => subst e; omega
      · exact o
    · rw [if_pos rfl]
      exact hpp.1 a' b' _ _ (hT a' ha')
  · rcases hD' b' a' hlt he' hd with d | ⟨rfl, rfl⟩
    · exact hE a' b' ha' hb' hlt he' d
    · exact Nat.le_trans (hpp.1 a' b' _ _ (hT a' ha')) q
theorem agI_weak {R N w f src z : Nat} {s : Nat → Int32} {M0 Mr M : xMem} {fl : Int32} {D D' : Nat → Nat → Prop} (h : agI R N w f s src z M0 Mr M fl D) (hd : ∀ b a, a < N → b < N → b < a → nbE w a b → D' b a → D b a) : agI R N w f s src z M0 Mr M fl D' := ⟨h.1, h.2.1, h.2.2.1, fun a b ha hb hlt he d => h.2.2.2 a b ha hb hlt he (hd b a ha hb hlt he d)⟩
theorem nI_m1 (k : Nat) : nI (k + 1) - 1 = nI k := by rw [← nI_1, Int32.add_sub_cancel]
theorem nI_a1 (k : Nat) : nI k + (-1) = nI k - 1 := (Int32.sub_eq_add_neg (nI k) 1).symm
theorem u_sweepAg {M0 M : xMem} {h R w hg f src z : Nat} {s : Nat → Int32} {post : Int32 → xMem → Prop} (hw : 1 ≤ w) (hw2 : w ≤ 8) (hg2 : hg ≤ 6) (hf : f < 10) (hN : w * hg ≤ 48) (hk : kd h = 2) (hR10 : kd R = 10) (hR48 : ln R = 48) (hkd : kd (h + 1) = 0) (hRh : R ≠ h ∧ R ≠ h + 1 ∧ R ≠ h + 2 ∧ R ≠ h + 3 ∧ R ≠ 5) (hz : z < 1000) (hS : rS s) (e0 : M0.1 h 0 = nI w) (e1 : M0.1 h 1 = nI hg) (e5 : M0.1 5 2 = nI f) (hG : rG (M0.1 (h + 2)) (M0.1 (h + 3)) (M0.1 (h + 1) 2) (M0.1 (h + 1) 3) s) (hM : rSS R 0 (w * hg) (nbE w) (passN w f s) src z M0 M) (hK : ∀ fl M', agI R (w * hg) w f s src z M0 M M' fl (fun _ _ => True) → post fl M') : w_X6_sweepAgainst M h R post := by
  obtain ⟨q0, q1, q2, q3, q5⟩ := hRh
  have rows : ∀ M' fl D, agI R (w * hg) w f s src z M0 M M' fl D → M'.1 h 0 = nI w ∧ M'.1 h 1 = nI hg ∧ rG (M'.1 (h + 2)) (M'.1 (h + 3)) (M'.1 (h + 1) 2) (M'.1 (h + 1) 3) s := fun M' fl D hI => by
    have g := hI.1.1
    rw [g h (Ne.symm q0), g (h + 1) (Ne.symm q1), g (h + 2) (Ne.symm q2), g (h + 3) (Ne.symm q3)]
    exact ⟨e0, e1, hG⟩
  have g := hM.1
  have b1 := neg_five _ (wd_five hS.2.2.1.1 hS.2.2.1.2)
  have b2 := neg_five _ (wd_five hS.2.2.2.1 hS.2.2.2.2)
  unfold w_X6_sweepAgainst
  rw [g (h + 1) (Ne.symm q1), hG.2.2.1]
  refine ⟨hk, u_less (by rw [g 5 (Ne.symm q5)]; exact e5) hf b1.1 ?_⟩
  show w_X6_lossWith M (-(M.1 (h + 1) 3)) _
  rw [g (h + 1) (Ne.symm q1), hG.2.2.2]
  refine u_less (by rw [g 5 (Ne.symm q5)]; exact e5) hf b2.1 ?_
  rw [b1.2, b2.2]
  have f1 : M.1 h 1 = nI hg := by rw [g h (Ne.symm q0)]; exact e1
  rw [f1]
  refine xlp8_of (I := fun M' a b c x1 x2 fl q => a = h ∧ b = R ∧ c = h + 1 ∧ x1 = nI (lessI f (-(s 192).toInt)) ∧ x2 = nI (lessI f (-(s 193).toInt)) ∧ ∃ y, y ≤ hg ∧ q = nI y - 1 ∧ agI R (w * hg) w f s src z M0 M M' fl (fun b _ => w * y ≤ b)) (mu := fun _ _ _ _ _ _ _ q => (q.toInt + 1).toNat) ?_ ⟨rfl, rfl, rfl, rfl, rfl, hg, Nat.le_refl _, rfl, hM, fun _ _ => Nat.le_refl _, Or.inl ⟨rfl, fun _ _ => rfl⟩, fun a b ha hb hlt he d => absurd d (by omega)⟩
  intro r M1 a b c x1 x2 fl q hI hr
  obtain ⟨rfl, rfl, rfl, rfl, rfl, y, hy, rfl, hI⟩ := hI
  unfold b_X6_sweepAgainst_38
  match y, hy, hI, hr with
  | 0, hy, hI, hr =>
    refine ⟨fun _ => ⟨hI.2.2.1.elim (fun z => Or.inl z.1) Or.inr, hK fl M1 (agI_weak hI (fun b a ha hb hlt he d => by rw [Nat.mul_zero]; exact Nat.zero_le _))⟩, fun q => absurd (by decide) q⟩
  | y + 1, hy, hI, hr =>
    rw [nI_m1] at hr ⊢
    obtain ⟨m0, m1, mG⟩ := rows M1 _ _ hI
    rw [m0]
    refine ⟨fun q => absurd q (nI_pos (by omega)), fun _ => ⟨hk, ?_⟩⟩
    have hyw : w * y + w ≤ w * hg := by
      rw [← Nat.mul_succ]
      exact Nat.mul_le_mul_left w hy
    refine xlp9_of (I := fun M' a' b' c' x1 x2 fl q6 q => a' = a ∧ b' = b ∧ c' = a + 1 ∧ x1 = nI (lessI f (-(s 192).toInt)) ∧ x2 = nI (lessI f (-(s 193).toInt)) ∧ q6 = nI y ∧ ∃ x, x ≤ w ∧ q = nI x - 1 ∧ agI b (w * hg) w f s src z M0 M M' fl (fun b _ => w * y + x ≤ b)) (mu := fun _ _ _ _ _ _ _ _ q => (q.toInt + 1).toNat) ?_ ⟨rfl, rfl, rfl, rfl, rfl, rfl, w, Nat.le_refl _, rfl, agI_weak hI (fun b a ha hb hlt he d => by rw [Nat.mul_succ]; exact d)⟩
    intro r2 M2 a' b' c' x1 x2 fl2 q6 q hI hr2
    obtain ⟨rfl, rfl, rfl, rfl, rfl, rfl, x, hx, rfl, hI⟩ := hI
    unfold b_X6_sweepAgainst_51
    match x, hx, hI, hr2 with
    | 0, hx, hI, hr2 =>
      refine ⟨fun _ => ?_, fun q => absurd (by decide) q⟩
      rw [nI_a1]
      refine hr M2 _ _ _ _ _ _ _ ⟨rfl, rfl, rfl, rfl, rfl, y, by omega, rfl, hI⟩ ?_
      show ((nI y - 1).toInt + 1).toNat < ((nI y).toInt + 1).toNat
      rw [nI_sub1 (by omega), q_toI _ (by omega)]
      omega
    | x + 1, hx, hI, hr2 =>
      rw [nI_m1] at hr2 ⊢
      obtain ⟨n0, n1, nG⟩ := rows M2 _ _ hI
      have yard : nI w * nI y + nI x = nI (w * y + x) := by rw [pk_mul, nI_add]
      have mx : (w * y + x) % w = x := by rw [Nat.mul_add_mod, Nat.mod_eq_of_lt (by omega)]
      rw [n0, yard]
      have two : (2 : Int32) * nI (w * y + x) = nI (2 * (w * y + x)) := by rw [show (2 : Int32) = nI 2 from rfl, pk_mul]
      have next : ∀ fl3 M3, agI b' (w * hg) w f s src z M0 M M3 fl3 (fun b _ => w * y + x ≤ b) → b_X6_sweepAgainst_145 post r r2 M3 a' b' (a' + 1) (nI (lessI f (-(s 192).toInt))) (nI (lessI f (-(s 193).toInt))) fl3 (nI y) (nI x) := fun fl3 M3 h3 => by
        unfold b_X6_sweepAgainst_145
        rw [nI_a1]
        refine hr2 M3 _ _ _ _ _ _ _ _ ⟨rfl, rfl, rfl, rfl, rfl, rfl, x, by omega, rfl, h3⟩ ?_
        show ((nI x - 1).toInt + 1).toNat < ((nI x).toInt + 1).toNat
        rw [nI_sub1 (by omega), q_toI _ (by omega)]
        omega
      have down : ∀ fl3 M3, agI b' (w * hg) w f s src z M0 M M3 fl3 (fun b a => w * y + x < b ∨ (b = w * y + x ∧ a ≠ b + w)) → b_X6_sweepAgainst_111 post r r2 M3 a' b' (a' + 1) (nI (lessI f (-(s 192).toInt))) (nI (lessI f (-(s 193).toInt))) fl3 (nI y) (nI x) (nI (w * y + x)) (nI (w * y + x) + nI w) := fun fl3 M3 h3 => by
        obtain ⟨p0, p1, pG⟩ := rows M3 _ _ h3
        unfold b_X6_sweepAgainst_111
        rw [p1, nI_1, two, nI_1, nI_add]
        refine ⟨hk, fun q => next fl3 M3 (agI_weak h3 (fun b a ha hb hlt he d => ?_)), fun q => ?_⟩
        · have hh : hg ≤ y + 1 := (nI_cond (by omega) (by omega)).mp q
          by_cases e : b = w * y + x
          · refine Or.inr ⟨e, fun eb => ?_⟩
            have : w * hg ≤ w * (y + 1) := Nat.mul_le_mul_left w hh
            rw [Nat.mul_succ] at this
            omega
          · exact Or.inl (by omega)
        · have hh : y + 1 < hg := Nat.lt_of_not_le (fun q2 => q ((nI_cond (by omega) (by omega)).mpr q2))
          have hn : w * (y + 1) + w ≤ w * hg := by
            rw [← Nat.mul_succ]
            exact Nat.mul_le_mul_left w hh
          rw [Nat.mul_succ] at hn
          have lo : loN (w * y + x + w) (w * y + x) = w * y + x := by unfold loN; rw [if_neg (by omega)]
          have al : nbAl w (w * y + x + w) (w * y + x) = true := by unfold nbAl; simp
          refine ag_carry hw hf hN hR10 hR48 hkd hz (by omega) (by omega) hS pG h3 (Or.inl (Or.inr rfl)) (by rw [lo, if_pos al]) (by rw [if_pos al, if_neg (by omega)]) (fun b' a' hlt he d => ?_) (fun M' hM' => ⟨fun z => absurd z (by decide), fun _ => next 1 M' hM'⟩) (fun M' hM' => ⟨fun _ => next fl3 M' hM', fun z => absurd rfl z⟩)
          by_cases e : b' = w * y + x
          · by_cases eb : a' = w * y + x + w
            · exact Or.inr ⟨eb, e⟩
            · exact Or.inl (Or.inr ⟨e, by omega⟩)
          · exact Or.inl (Or.inl (by omega))
      rw [nI_1]
      refine ⟨fun q => absurd q (nI_pos (by omega)), fun _ => ⟨hk, fun q => down fl2 M2 (agI_weak hI (fun b a ha hb hlt he d => ?_)), fun q => ?_⟩⟩
      · have hh : w ≤ x + 1 := (nI_cond (by omega) (by omega)).mp q
        rcases d with d | ⟨e, ne⟩
        · omega
        · rcases he with (e2 | e2) | ⟨e2, e3⟩ | ⟨e2, e3⟩
          · omega
          · exact absurd e2 ne
          · omega
          · rw [e, mx] at e3
            omega
      · have hh : x + 1 < w := Nat.lt_of_not_le (fun q2 => q ((nI_cond (by omega) (by omega)).mpr q2))
        have lo : loN (w * y + x + 1) (w * y + x) = w * y + x := by unfold loN; rw [if_neg (by omega)]
        have al : ¬ nbAl w (w * y + x + 1) (w * y + x) = true := by
          unfold nbAl
          rw [Bool.or_eq_true, decide_eq_true_eq, decide_eq_true_eq]
          omega
        rw [two, nI_1]
        refine ag_carry hw hf hN hR10 hR48 hkd hz (by omega) (by omega) hS nG hI (Or.inr (Or.inr ⟨rfl, by rw [mx]; omega⟩)) (by rw [lo, if_neg al]; rfl) (by rw [if_neg al, if_neg (by omega)]) (fun b' a' hlt he d => ?_) (fun M' hM' => ⟨fun z => absurd z (by decide), fun _ => down 1 M' hM'⟩) (fun M' hM' => ⟨fun _ => down fl2 M' hM', fun z => absurd rfl z⟩)
        rcases d with d | ⟨e, ne⟩
        · exact Or.inl (by omega)
        · rcases he with (e2 | e2) | ⟨e2, e3⟩ | ⟨e2, e3⟩
          · omega
          · exact absurd e2 ne
          · omega
          · exact Or.inr ⟨by omega, e⟩
