/-! the class's loop over items -/
theorem wdV_rng {c v : Nat} (hv : v ≤ 2) : -2 ≤ (wdV c v).toInt ∧ (wdV c v).toInt ≤ 2 := by
  have a : ∀ v, v < 3 → (-2 ≤ (nI v).toInt ∧ (nI v).toInt ≤ 2) ∧ (-2 ≤ (-(nI v)).toInt ∧ (-(nI v)).toInt ≤ 2) := by decide
  unfold wdV
  split
  · exact (a v (by omega)).1
  · exact (a v (by omega)).2
theorem vD_V {x : Nat → Int32} {n p w hg nw nd : Nat} {s wk dd : Nat → Int32} (hv : vD w hg nw nd s wk dd) (a : al (ckV x n p) 3) : vD w hg nw nd (upd s (192 + wdK (tkC x n (ps x n p 1))) (wdV (tkC x n (ps x n p 1)) (tkV x n (ps x n p 2)))) wk dd := by
  obtain ⟨v1, v2, v3, ⟨s1, s2, s3, s4⟩, v5, v6⟩ := hv
  have t2 := (a 2 (by omega) (by omega)).2.2
  have hr := wdV_rng (c := tkC x n (ps x n p 1)) (v := tkV x n (ps x n p 2)) t2
  have hk : wdK (tkC x n (ps x n p 1)) = 0 ∨ wdK (tkC x n (ps x n p 1)) = 1 := by unfold wdK; split <;> omega
  refine ⟨v1, v2, v3, ⟨fun b hb => ?_, fun b hb => ?_, ?_, ?_⟩, v5, fun k hk' => ?_⟩
  · rw [pk_un (by omega)]
    exact s1 b hb
  · rw [pk_un (by omega)]
    exact s2 b hb
  · rcases hk with e | e
    · rw [e, pk_us]
      exact hr
    · rw [e, pk_un (by omega)]
      exact s3
  · rcases hk with e | e
    · rw [e, pk_un (by omega)]
      exact s4
    · rw [e, pk_us]
      exact hr
  · rw [pk_un (by omega)]
    exact v6 k hk'
theorem cD_V {M M' : xMem} {d w hg nw nd c : Nat} {v : Int32} {s wk dd : Nat → Int32} (hc : cD M d w hg nw nd s wk dd) (hnw : nw ≤ 6) (hnd : nd ≤ 8) (g1 : ∀ j, j ≠ d + 1 → d ≤ j → j < d + 20 → M'.1 j = M.1 j) (g2 : M'.1 (d + 1) = upd (M.1 (d + 1)) (2 + wdK c) v) : cD M' d w hg nw nd (upd s (192 + wdK c) v) wk dd := by
  obtain ⟨c0, c4, c5, ⟨c6, c7, c8, c9⟩⟩ := hc
  have hk : wdK c = 0 ∨ wdK c = 1 := by unfold wdK; split <;> omega
  refine ⟨?_, fun i k hi hk => ?_, fun i k hi hk => ?_, fun a ha => ?_, fun a ha => ?_, ?_, ?_⟩
  · rw [g1 d (by omega) (by omega) (by omega)]
    exact c0
  · rw [g1 _ (by omega) (by omega) (by omega)]
    exact c4 i k hi hk
  · rw [g1 _ (by omega) (by omega) (by omega)]
    exact c5 i k hi hk
  · rw [g1 (d + 2) (by omega) (by omega) (by omega), pk_un (j := a) (by omega), pk_un (j := 48 + a) (by omega)]
    exact c6 a ha
  · rw [g1 (d + 3) (by omega) (by omega) (by omega), pk_un (j := 96 + a) (by omega), pk_un (j := 144 + a) (by omega)]
    exact c7 a ha
  · rw [g2]
    rcases hk with e | e
    · rw [e, pk_us, pk_us]
    · rw [e, pk_un (by omega), pk_un (by omega)]
      exact c8
  · rw [g2]
    rcases hk with e | e
    · rw [e, pk_un (by omega), pk_un (by omega)]
      exact c9
    · rw [e, pk_us, pk_us]
theorem vD_B {x : Nat → Int32} {n p w hg nw nd mx o : Nat} {s wk dd : Nat → Int32} (hv : vD w hg nw nd s wk dd) (hk : (mx = 3 ∧ o = 0) ∨ (mx = 9 ∧ o = 96)) (a : al (ckB x n p w (w * hg) mx) 4) : vD w hg nw nd (upd s (o + (loN (tkV x n (ps x n p 1)) (tkV x n (ps x n p 2)) + if nbAl w (tkV x n (ps x n p 1)) (tkV x n (ps x n p 2)) = true then 48 else 0)) (nI (tkV x n (ps x n p 3)))) wk dd := by
  obtain ⟨v1, v2, v3, v4, v5, v6⟩ := hv
  have hN : 1 ≤ w * hg ∧ w * hg ≤ 48 := ⟨Nat.mul_pos v1.1 v2.1, Nat.mul_le_mul v1.2 v2.2⟩
  have t1 : tkV x n (ps x n p 1) ≤ w * hg - 1 := (a 1 (by omega) (by omega)).2.2
  have t2 : tkV x n (ps x n p 2) ≤ w * hg - 1 := (a 2 (by omega) (by omega)).1.2.2
  have t3 : tkV x n (ps x n p 3) ≤ mx := (a 3 (by omega) (by omega)).2.2
  obtain ⟨l1, l2, l3⟩ := lo_lt (a := tkV x n (ps x n p 1)) (b := tkV x n (ps x n p 2)) (n := w * hg) (by omega) (by omega)
  have hsp : (loN (tkV x n (ps x n p 1)) (tkV x n (ps x n p 2)) + if nbAl w (tkV x n (ps x n p 1)) (tkV x n (ps x n p 2)) = true then 48 else 0) < 96 := by split <;> omega
  refine ⟨v1, v2, v3, rS_upd v4 ?_, v5, fun k hk' => ?_⟩
  · rcases hk with ⟨e1, e2⟩ | ⟨e1, e2⟩
    · exact Or.inl ⟨by omega, ⟨tkV x n (ps x n p 3), by omega, rfl⟩⟩
    · exact Or.inr ⟨by omega, ⟨tkV x n (ps x n p 3), by omega, rfl⟩⟩
  · rw [pk_un (by rcases hk with ⟨e1, e2⟩ | ⟨e1, e2⟩ <;> omega)]
    exact v6 k hk'
theorem cD_B {M M' : xMem} {d w hg nw nd a o R : Nat} {al' : Bool} {v : Int32} {s wk dd : Nat → Int32} (hc : cD M d w hg nw nd s wk dd) (hnw : nw ≤ 6) (hnd : nd ≤ 8) (ha : a < 48) (hk : (R = d + 2 ∧ o = 0) ∨ (R = d + 3 ∧ o = 96)) (g1 : ∀ j, j ≠ R → d ≤ j → j < d + 20 → M'.1 j = M.1 j) (g2 : M'.1 R = upd (M.1 R) (2 * a + if al' = true then 1 else 0) v) : cD M' d w hg nw nd (upd s (o + (a + if al' = true then 48 else 0)) v) wk dd := by
  obtain ⟨c0, c4, c5, c6⟩ := hc
  have hR : R = d + 2 ∨ R = d + 3 := by rcases hk with q | q <;> omega
  refine ⟨?_, fun i k hi hk => ?_, fun i k hi hk => ?_, ?_⟩
  · rw [g1 d (by omega) (by omega) (by omega)]
    exact c0
  · rw [g1 _ (by omega) (by omega) (by omega)]
    exact c4 i k hi hk
  · rw [g1 _ (by omega) (by omega) (by omega)]
    exact c5 i k hi hk
  · rw [g1 (d + 1) (by omega) (by omega) (by omega)]
    rcases hk with ⟨rfl, rfl⟩ | ⟨rfl, rfl⟩
    · rw [g2, g1 (d + 3) (by omega) (by omega) (by omega), Nat.zero_add]
      exact rG_upd0 al' ha c6
    · rw [g2, g1 (d + 2) (by omega) (by omega) (by omega)]
      exact rG_upd1 al' ha c6
theorem u_read {M : xMem} {x : Nat → Int32} {h d w0 hg0 f0 nw0 nd0 n : Nat} {K post : Int32 → xMem → Prop} (hR : Rel M h d w0 hg0 f0 nw0 nd0) (hK : ∀ r M1, (∀ K2 : Int32 → xMem → Prop, (∀ M2, RelE M2 → K2 r M2) → w_X9_hill M1 K2) → K r M1) (hTc : cTx M n x) (hTr : rTx M n x) (hpost : ∀ st M', st < 1000 → K ((-10 : Int32) - nI st) M' → post ((-10 : Int32) - nI st) M') (hend : ∀ i p w hg nw nd s wk dd M', i ≤ 400 → tkC x n p = 0 → cF M M' d → cD M' d w hg nw nd s wk dd → vD w hg nw nd s wk dd → jP M x n i p w hg nw nd s wk dd → post (nI i) M') : w_X5_read M d post := by
  have hh : d = 35 ∨ d = 58 := by rcases hR.1 with q | q <;> omega
  have n400 := hTc.2.1
  unfold w_X5_read
  refine u_start hh (fun M3 f3 c3 M4 e4 => ?_)
  have f4 : cF M M4 d := cF_tr f3 ⟨fun j a _ _ => by rw [e4, m_row _ _ _ a], by rw [e4, m_snd]⟩
  have c4 : cD M4 d 4 3 0 0 (fun _ => 0) (fun _ => 0) (fun _ => 0) := by
    rw [e4]
    unfold cD
    rw [m_row _ _ _ (show d ≠ 1 by omega), m_row _ _ _ (show d + 1 ≠ 1 by omega), m_row _ _ _ (show d + 2 ≠ 1 by omega), m_row _ _ _ (show d + 3 ≠ 1 by omega)]
    exact ⟨c3.1, fun i k hi => absurd hi (Nat.not_lt_zero _), fun i k hi => absurd hi (Nat.not_lt_zero _), c3.2.2.2⟩
  refine xlp3_of (I := fun M' a q => a = d ∧ ∃ i p w hg nw nd s wk dd, i ≤ p ∧ p ≤ n ∧ q = nI i ∧ cF M M' d ∧ M'.1 1 2 = nI p ∧ cD M' d w hg nw nd s wk dd ∧ vD w hg nw nd s wk dd ∧ (i = 0 → nw = 0 ∧ nd = 0) ∧ jP M x n i p w hg nw nd s wk dd) (mu := fun _ _ q => 401 - q.toNatClampNeg) ?_ ⟨rfl, 0, 0, 4, 3, 0, 0, _, _, _, Nat.le_refl _, Nat.zero_le _, rfl, f4, by rw [e4, m_same]; rfl, c4, vD_0, fun _ => ⟨rfl, rfl⟩, jP_0 hTr⟩
  intro r M' a q hI hr
  obtain ⟨rfl, i, p, w, hg, nw, nd, s, wk, dd, hip, hp, rfl, F, e2, hD, hv, h0, hJ⟩ := hI
  obtain ⟨v1, v2, v3, v4, v5, v6⟩ := id hv
  have hN : 1 ≤ w * hg ∧ w * hg ≤ 48 := ⟨Nat.mul_pos v1.1 v2.1, Nat.mul_le_mul v1.2 v2.2⟩
  have hi : i ≤ 400 := by omega
  have h13 := tkC_le (x := x) (n := n) (p := p)
  have hS := tkS_le (x := x) hp
  unfold b_X5_read_11
  refine ⟨fun z => absurd ((nI_ltI (a := 400) (by omega) (by omega)).mp z) (by omega), fun _ => ?_⟩
  refine u_next (cTx_F hTc (by omega) F) hp e2 (fun M5 hk => ?_)
  obtain ⟨k1, k2, k3, k4, k5, -⟩ := hk
  have F5 : cF M M5 a := cF_tr F (cF_1 k1 k2)
  have hT5 := cTx_F hTc (by omega) F5
  have D5 : cD M5 a w hg nw nd s wk dd := by
    obtain ⟨q1, q2, q3, q4⟩ := hD
    refine ⟨by rw [k1 a (by omega)]; exact q1, fun i k hi hk => by rw [k1 _ (by omega)]; exact q2 i k hi hk, fun i k hi hk => by rw [k1 _ (by omega)]; exact q3 i k hi hk, ?_⟩
    rw [k1 (a + 1) (by omega), k1 (a + 2) (by omega), k1 (a + 3) (by omega)]
    exact q4
  obtain ⟨⟨d0, d1, d2, d3⟩, -⟩ := id D5
  rw [k5]
  refine ⟨fun ne => ?_, fun e => hend i p w hg nw nd s wk dd M5 hi (q_inj (a := tkC x n p) (b := 0) (by omega) (by omega) e) F5 D5 hv hJ⟩
  have c0 : tkC x n p ≠ 0 := fun z => ne (by rw [z]; rfl)
  have hpE := tkE_lt hp c0
  have nxt : ∀ M6 j w' hg' nw' nd' s' wk' dd', cF M M6 a → M6.1 1 2 = nI (ps x n p (j + 1)) → cD M6 a w' hg' nw' nd' s' wk' dd' → vD w' hg' nw' nd' s' wk' dd' → jP M x n (i + 1) (ps x n p (j + 1)) w' hg' nw' nd' s' wk' dd' → r M6 a (nI i + 1) := fun M6 j w' hg' nw' nd' s' wk' dd' a1 a2 a3 a4 a5 => by
    rw [nI_1]
    have := ps_ge (x := x) hp j
    refine hr _ _ _ ⟨rfl, i + 1, ps x n p (j + 1), w', hg', nw', nd', s', wk', dd', by omega, ps_le hp _, rfl, a1, a2, a3, a4, fun z => absurd z (by omega), a5⟩ ?_
    show 401 - (nI (i + 1)).toNatClampNeg < 401 - (nI i).toNatClampNeg
    rw [nI_clamp (by omega), nI_clamp (by omega)]
    omega
  have bad0 : ¬ may (tkC x n p) i nw nd → b_X5_read_161 post r M5 a (nI i) 0 := fun nm => c161_bad k4 (hpost _ M5 (by omega) (j_bad hR hK hi hJ (fun Mr K2 r' al df hb => it_0 hv hi c0 nm Mr K2 r' al df hb) M5 F5))
  rcases (show tkC x n p = 1 ∨ tkC x n p = 2 ∨ tkC x n p = 3 ∨ tkC x n p = 4 ∨ tkC x n p = 5 ∨ tkC x n p = 6 ∨ tkC x n p = 7 ∨ tkC x n p = 8 ∨ tkC x n p = 9 ∨ tkC x n p = 10 ∨ tkC x n p = 11 ∨ tkC x n p = 12 ∨ tkC x n p = 13 by omega) with e | e | e | e | e | e | e | e | e | e | e | e | e
  · have bd := bad0 (by unfold may; omega)
    rw [e]
    exact ⟨fun z => absurd z (by decide), fun z => absurd z (by decide), fun z => absurd z (by decide), fun z => absurd z (by decide), fun z => absurd z (by decide), fun z => absurd z (by decide), fun z => absurd z (by decide), fun z => absurd z (by decide), fun z => absurd z (by decide), fun z => absurd z (by decide), fun _ _ _ _ _ _ _ _ _ _ => bd⟩
  · have bd := bad0 (by unfold may; omega)
    rw [e]
    exact ⟨fun z => absurd z (by decide), fun z => absurd z (by decide), fun z => absurd z (by decide), fun z => absurd z (by decide), fun z => absurd z (by decide), fun z => absurd z (by decide), fun z => absurd z (by decide), fun z => absurd z (by decide), fun z => absurd z (by decide), fun z => absurd z (by decide), fun _ _ _ _ _ _ _ _ _ _ => bd⟩
  · have bd := bad0 (by unfold may; omega)
    rw [e]
    exact ⟨fun z => absurd z (by decide), fun z => absurd z (by decide), fun z => absurd z (by decide), fun z => absurd z (by decide), fun z => absurd z (by decide), fun z => absurd z (by decide), fun z => absurd z (by decide), fun z => absurd z (by decide), fun z => absurd z (by decide), fun z => absurd z (by decide), fun _ _ _ _ _ _ _ _ _ _ => bd⟩
  · by_cases i0 : i = 0
    · have it : w_X5_readSize M5 a (fun z7 M8 => ((z7 = 0) → (b_X5_read_104 post r M8 a (nI i))) ∧ ((¬ z7 = 0) → (b_X5_read_105 post r M8 a (nI i) (1 : Int32)))) := by
        refine u_itH hh hT5 hp k3 (fun al M6 f6 q2 g1 g2 g3 g4 => ?_) (fun st f M6 c => hpost st M6 (by have := fl_le f hp; omega) (j_bad hR hK hi hJ (fun Mr K2 r' al df hb => it_H hv hi e i0 Mr K2 r' al df (fun a => (fl_no f a).elim) (fun st' M7 f' g de => hb M7 g (by rw [fl_uniq f f']; exact de))) M6 (cF_tr F5 c)))
        obtain ⟨z1, z2⟩ := h0 i0
        have t1 := al 1 (by omega) (by omega)
        have t2 := al 2 (by omega) (by omega)
        refine nxt M6 3 (tkV x n (ps x n p 1)) (tkV x n (ps x n p 2)) nw nd s wk dd (cF_tr F5 f6) q2 ⟨⟨g2, g3, (g1 2 (by omega) (by omega)).trans d2, (g1 3 (by omega) (by omega)).trans d3⟩, fun i k hi => by omega, fun i k hi => by omega, ?_⟩ ⟨t1.2, t2.2, v3, v4, ⟨fun i hi => by omega, fun i hi => by omega⟩, v6⟩ (j_ok hi hJ (fun Mr K2 r' al' df ho => it_H hv hi e i0 Mr K2 r' al' df (fun _ => ho) (fun st M7 f => (fl_no f al).elim)))
        rw [g4 (a + 1) (by omega) (by omega) (by omega), g4 (a + 2) (by omega) (by omega) (by omega), g4 (a + 3) (by omega) (by omega) (by omega)]
        exact D5.2.2.2
      rw [e]
      exact ⟨fun _ => ⟨fun n0 => absurd (by rw [i0]; rfl) n0, fun _ => it⟩, fun z => absurd z (by decide), fun z => absurd z (by decide), fun z => absurd z (by decide), fun z => absurd z (by decide), fun z => absurd z (by decide), fun z => absurd z (by decide), fun z => absurd z (by decide), fun z => absurd z (by decide), fun z => absurd z (by decide), fun n4 => absurd rfl n4⟩
    · have bd := bad0 (by unfold may; omega)
      rw [e]
      exact ⟨fun _ => ⟨fun _ => bd, fun z => absurd (q_inj (a := i) (b := 0) (by omega) (by omega) z) i0⟩, fun z => absurd z (by decide), fun z => absurd z (by decide), fun z => absurd z (by decide), fun z => absurd z (by decide), fun z => absurd z (by decide), fun z => absurd z (by decide), fun z => absurd z (by decide), fun z => absurd z (by decide), fun z => absurd z (by decide), fun n4 => absurd rfl n4⟩
  · have it : w_X5_readBorder M5 a 0 (fun z M' => b_X5_read_161 post r M' a (nI i) z) := by
      refine u_itB (w := w) (hg := hg) (mx := 3) (R := a + 2) hh hT5 hp k3 d0 d1 v1.1 hN (Or.inl ⟨rfl, rfl, rfl⟩) (fun al M6 f6 q2 g1 g2 => ?_) (fun st f M6 c => hpost st M6 (by have := fl_le f hp; omega) (j_bad hR hK hi hJ (fun Mr K2 r' al df hb => it_B (o := 0) hv hi (Or.inl ⟨e, rfl, rfl⟩) Mr K2 r' al df (fun a => (fl_no f a).elim) (fun st' M7 f' g de => hb M7 g (by rw [fl_uniq f f']; exact de))) M6 (cF_tr F5 c)))
      have t1 : tkV x n (ps x n p 1) ≤ w * hg - 1 := (al 1 (by omega) (by omega)).2.2
      have t2 : tkV x n (ps x n p 2) ≤ w * hg - 1 := (al 2 (by omega) (by omega)).1.2.2
      obtain ⟨l1, l2, l3⟩ := lo_lt (a := tkV x n (ps x n p 1)) (b := tkV x n (ps x n p 2)) (n := w * hg) (by omega) (by omega)
      exact nxt M6 4 w hg nw nd _ wk dd (cF_tr F5 f6) q2 (cD_B D5 v3.1 v3.2 (by omega) (Or.inl ⟨rfl, rfl⟩) g1 g2) (vD_B hv (Or.inl ⟨rfl, rfl⟩) al) (j_ok hi hJ (fun Mr K2 r' al' df ho => it_B (o := 0) hv hi (Or.inl ⟨e, rfl, rfl⟩) Mr K2 r' al' df (fun _ => ho) (fun st M7 f => (fl_no f al).elim)))
    rw [e]
    exact ⟨fun z => absurd z (by decide), fun _ => it, fun z => absurd z (by decide), fun z => absurd z (by decide), fun z => absurd z (by decide), fun z => absurd z (by decide), fun z => absurd z (by decide), fun z => absurd z (by decide), fun z => absurd z (by decide), fun z => absurd z (by decide), fun _ n5 => absurd rfl n5⟩
  · have it : w_X5_readBorder M5 a 1 (fun z M' => b_X5_read_161 post r M' a (nI i) z) := by
      refine u_itB (w := w) (hg := hg) (mx := 9) (R := a + 3) hh hT5 hp k3 d0 d1 v1.1 hN (Or.inr ⟨by decide, rfl, rfl⟩) (fun al M6 f6 q2 g1 g2 => ?_) (fun st f M6 c => hpost st M6 (by have := fl_le f hp; omega) (j_bad hR hK hi hJ (fun Mr K2 r' al df hb => it_B (o := 96) hv hi (Or.inr ⟨e, rfl, rfl⟩) Mr K2 r' al df (fun a => (fl_no f a).elim) (fun st' M7 f' g de => hb M7 g (by rw [fl_uniq f f']; exact de))) M6 (cF_tr F5 c)))
      have t1 : tkV x n (ps x n p 1) ≤ w * hg - 1 := (al 1 (by omega) (by omega)).2.2
      have t2 : tkV x n (ps x n p 2) ≤ w * hg - 1 := (al 2 (by omega) (by omega)).1.2.2
      obtain ⟨l1, l2, l3⟩ := lo_lt (a := tkV x n (ps x n p 1)) (b := tkV x n (ps x n p 2)) (n := w * hg) (by omega) (by omega)
      exact nxt M6 4 w hg nw nd _ wk dd (cF_tr F5 f6) q2 (cD_B D5 v3.1 v3.2 (by omega) (Or.inr ⟨rfl, rfl⟩) g1 g2) (vD_B hv (Or.inr ⟨rfl, rfl⟩) al) (j_ok hi hJ (fun Mr K2 r' al' df ho => it_B (o := 96) hv hi (Or.inr ⟨e, rfl, rfl⟩) Mr K2 r' al' df (fun _ => ho) (fun st M7 f => (fl_no f al).elim)))
    rw [e]
    exact ⟨fun z => absurd z (by decide), fun z => absurd z (by decide), fun _ => it, fun z => absurd z (by decide), fun z => absurd z (by decide), fun z => absurd z (by decide), fun z => absurd z (by decide), fun z => absurd z (by decide), fun z => absurd z (by decide), fun z => absurd z (by decide), fun _ _ n6 => absurd rfl n6⟩
  · have it : w_X5_readWind M5 (a + 1) (fun z M' => b_X5_read_161 post r M' a (nI i) z) := by
      refine u_itV hh hT5 hp k3 (fun al M6 f6 q2 g1 g2 => ?_) (fun st f M6 c => hpost st M6 (by have := fl_le f hp; omega) (j_bad hR hK hi hJ (fun Mr K2 r' al df hb => it_V hv hi e Mr K2 r' al df (fun a => (fl_no f a).elim) (fun st' M7 f' g de => hb M7 g (by rw [fl_uniq f f']; exact de))) M6 (cF_tr F5 c)))
      exact nxt M6 3 w hg nw nd _ wk dd (cF_tr F5 f6) q2 (cD_V D5 v3.1 v3.2 g1 g2) (vD_V hv al) (j_ok hi hJ (fun Mr K2 r' al' df ho => it_V hv hi e Mr K2 r' al' df (fun _ => ho) (fun st M7 f => (fl_no f al).elim)))
    have kh : kd a = 2 := by rcases hh with rfl | rfl <;> decide
    rw [e]
    exact ⟨fun z => absurd z (by decide), fun z => absurd z (by decide), fun z => absurd z (by decide), fun _ => ⟨kh, it⟩, fun z => absurd z (by decide), fun z => absurd z (by decide), fun z => absurd z (by decide), fun z => absurd z (by decide), fun z => absurd z (by decide), fun z => absurd z (by decide), fun _ _ _ n7 => absurd rfl n7⟩
  · have bd := bad0 (by unfold may; omega)
    rw [e]
    exact ⟨fun z => absurd z (by decide), fun z => absurd z (by decide), fun z => absurd z (by decide), fun z => absurd z (by decide), fun _ => bd, fun z => absurd z (by decide), fun z => absurd z (by decide), fun z => absurd z (by decide), fun z => absurd z (by decide), fun z => absurd z (by decide), fun _ _ _ _ _ _ _ _ _ _ => bd⟩
  · have bd := bad0 (by unfold may; omega)
    rw [e]
    exact ⟨fun z => absurd z (by decide), fun z => absurd z (by decide), fun z => absurd z (by decide), fun z => absurd z (by decide), fun z => absurd z (by decide), fun _ => bd, fun z => absurd z (by decide), fun z => absurd z (by decide), fun z => absurd z (by decide), fun z => absurd z (by decide), fun _ _ _ _ _ _ _ _ _ _ => bd⟩
  · have bd := bad0 (by unfold may; omega)
    rw [e]
    exact ⟨fun z => absurd z (by decide), fun z => absurd z (by decide), fun z => absurd z (by decide), fun z => absurd z (by decide), fun z => absurd z (by decide), fun z => absurd z (by decide), fun _ => bd, fun z => absurd z (by decide), fun z => absurd z (by decide), fun z => absurd z (by decide), fun _ _ _ _ _ _ _ _ _ _ => bd⟩
  · have bd := bad0 (by unfold may; omega)
    rw [e]
    exact ⟨fun z => absurd z (by decide), fun z => absurd z (by decide), fun z => absurd z (by decide), fun z => absurd z (by decide), fun z => absurd z (by decide), fun z => absurd z (by decide), fun z => absurd z (by decide), fun _ => bd, fun z => absurd z (by decide), fun z => absurd z (by decide), fun _ _ _ _ _ _ _ _ _ _ => bd⟩
  · have it : w_X5_readWorker M5 a (fun z M' => b_X5_read_161 post r M' a (nI i) z) := by
      by_cases hm : nw < 6
      · refine u_itW hh hT5 hp k3 d0 d1 d2 hm hN (fun al M6 f6 q2 g2 g3 g4 g5 => ?_) (fun st f M6 c => hpost st M6 (by have := fl_le f hp; omega) (j_bad hR hK hi hJ (fun Mr K2 r' al df hb => it_W hv hi e hm Mr K2 r' al df (fun a => (fl_no f a).elim) (fun st' M7 f' g de => hb M7 g (by rw [fl_uniq f f']; exact de))) M6 (cF_tr F5 c)))
        exact nxt M6 5 w hg (nw + 1) nd s _ dd (cF_tr F5 f6) q2 (cD_W D5 hm v3.2 g2 g3 g4 g5) (vD_W hv hm al) (j_ok hi hJ (fun Mr K2 r' al' df ho => it_W hv hi e hm Mr K2 r' al' df (fun _ => ho) (fun st M7 f => (fl_no f al).elim)))
      · have bd := bad0 (by unfold may; omega)
        have kh : kd a = 2 := by rcases hh with rfl | rfl <;> decide
        unfold w_X5_readWorker
        rw [d2]
        exact ⟨kh, fun z => absurd ((nI_ltI (b := 6) (by omega) (by omega)).mp z) hm, fun _ => bd⟩
    rw [e]
    exact ⟨fun z => absurd z (by decide), fun z => absurd z (by decide), fun z => absurd z (by decide), fun z => absurd z (by decide), fun z => absurd z (by decide), fun z => absurd z (by decide), fun z => absurd z (by decide), fun z => absurd z (by decide), fun _ => it, fun z => absurd z (by decide), fun _ _ _ _ _ _ _ _ n12 => absurd rfl n12⟩
  · have it : w_X5_readDeed M5 a (fun z M' => b_X5_read_161 post r M' a (nI i) z) := by
      by_cases hm : nd < 8
      · refine u_itD hh hT5 hp k3 d0 d1 d3 hm hN (fun al M6 f6 q2 g2 g3 g4 g5 => ?_) (fun st f M6 c => hpost st M6 (by have := fl_le f hp; omega) (j_bad hR hK hi hJ (fun Mr K2 r' al df hb => it_D hv hi e hm Mr K2 r' al df (fun a => (fl_no f a).elim) (fun st' M7 f' g de => hb M7 g (by rw [fl_uniq f f']; exact de))) M6 (cF_tr F5 c)))
        exact nxt M6 6 w hg nw (nd + 1) s wk _ (cF_tr F5 f6) q2 (cD_D D5 hm v3.1 g2 g3 g4 g5) (vD_D hv hm al) (j_ok hi hJ (fun Mr K2 r' al' df ho => it_D hv hi e hm Mr K2 r' al' df (fun _ => ho) (fun st M7 f => (fl_no f al).elim)))
      · have bd := bad0 (by unfold may; omega)
        have kh : kd a = 2 := by rcases hh with rfl | rfl <;> decide
        unfold w_X5_readDeed
        rw [d3]
        exact ⟨kh, fun z => absurd ((nI_ltI (b := 8) (by omega) (by omega)).mp z) hm, fun _ => bd⟩
    rw [e]
    exact ⟨fun z => absurd z (by decide), fun z => absurd z (by decide), fun z => absurd z (by decide), fun z => absurd z (by decide), fun z => absurd z (by decide), fun z => absurd z (by decide), fun z => absurd z (by decide), fun z => absurd z (by decide), fun z => absurd z (by decide), fun _ => it, fun _ _ _ _ _ _ _ _ _ n13 => absurd rfl n13⟩
