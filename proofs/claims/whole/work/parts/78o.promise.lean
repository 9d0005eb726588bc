/-! the two readings side by side: what the class has read so far, the reference will have read too -/
theorem rW_cg {n nw : Nat} {k k' : Nat → Int32} (h : ∀ c, c < 4 * nw → k' c = k c) (hW : rW n nw k) : rW n nw k' := by
  intro i hi
  rw [h (4 * i) (by omega), h (4 * i + 1) (by omega), h (4 * i + 2) (by omega), h (4 * i + 3) (by omega)]
  exact hW i hi
theorem rD_cg {n nd : Nat} {k k' : Nat → Int32} (h : ∀ c, c < 5 * nd → k' c = k c) (hD : rD n nd k) : rD n nd k' := by
  intro i hi
  rw [h (5 * i) (by omega), h (5 * i + 1) (by omega), h (5 * i + 2) (by omega), h (5 * i + 3) (by omega), h (5 * i + 4) (by omega)]
  exact hD i hi
theorem dHold_cg {nd e t : Nat} {k k' : Nat → Int32} (h : ∀ c, c < 5 * nd → k' c = k c) (he : e < nd) : dHold k' e t ↔ dHold k e t := by
  unfold dHold
  rw [h (5 * e + 1) (by omega), h (5 * e + 2) (by omega), h (5 * e) (by omega)]
  refine and_congr Iff.rfl ⟨fun a i hi => ?_, fun a i hi => ?_⟩
  · have := a i hi
    rw [h (5 * i) (by omega), h (5 * i + 1) (by omega), h (5 * i + 2) (by omega)] at this
    exact this
  · rw [h (5 * i) (by omega), h (5 * i + 1) (by omega), h (5 * i + 2) (by omega)]
    exact a i hi
theorem sumB_cg {v v' : Nat → Int32} {s : Nat} : ∀ n, (∀ i, i < n → v' i = v i) → sumB v' s n = sumB v s n
  | 0, _ => rfl
  | n + 1, h => by
    unfold sumB
    rw [sumB_cg n (fun i hi => h i (Nat.lt_succ_of_lt hi)), h n (Nat.lt_succ_self n)]
theorem rX_cg {w hg nw nd : Nat} {c : Nat → Nat → Int32} {wk wk' dd dd' : Nat → Int32} (hw : ∀ k, k < 4 * nw → wk' k = wk k) (hd : ∀ k, k < 5 * nd → dd' k = dd k) (h : rX w hg nw nd c wk dd) : rX w hg nw nd c wk' dd' := by
  obtain ⟨h1, h2, h3, h4, h5, h6, h7⟩ := h
  refine ⟨h1, fun i k hi hk => ?_, fun i k hi hk => ?_, fun t ht => bitsOf_cong (h4 t ht) (fun j hj => (dHold_cg hd hj).symm), fun i hi => bitsOf_cong (h5 i hi) (fun t ht => (dHold_cg hd hi).symm), fun s hs => ?_, fun s hs => ?_⟩
  · rw [hw _ (by omega)]
    exact h2 i k hi hk
  · rw [hd _ (by omega)]
    exact h3 i k hi hk
  · rw [h6 s hs]
    exact (sumB_cg nw (fun i hi => hw _ (by omega))).symm
  · rw [h7 s hs]
    exact (sumB_cg nd (fun i hi => hd _ (by omega))).symm
theorem heardS_cgw {lf : Nat → Nat → Int32} {wk wk' : Nat → Int32} {y s : Nat} {o : Bool} : ∀ n, (∀ i, i < n → wk' (4 * i) = wk (4 * i)) → heardS lf wk' y o s n = heardS lf wk y o s n
  | 0, _ => rfl
  | n + 1, h => by
    unfold heardS
    rw [heardS_cgw n (fun i hi => h i (Nat.lt_succ_of_lt hi)), h n (Nat.lt_succ_self n)]
theorem rBr_cg {nw nd : Nat} {br : Nat → Int32} {lf : Nat → Nat → Int32} {wk wk' dd dd' : Nat → Int32} (hw : ∀ k, k < 4 * nw → wk' k = wk k) (hd : ∀ k, k < 5 * nd → dd' k = dd k) (h : rBr nw nd br lf wk dd) : rBr nw nd br lf wk' dd' := by
  intro s hs
  refine bitsOf_cong (h s hs) (fun j hj => ?_)
  rw [hd (5 * j + 3) (by omega), hd (5 * j) (by omega), heardS_cgw nw (fun i hi => hw _ (by omega))]
theorem Rel_cg {M N : xMem} {h d w hg f nw nd : Nat} (hR : Rel M h d w hg f nw nd) (rows : ∀ j, j ≠ 87 → j ≠ 88 → N.1 j = M.1 j) (h87 : ∀ k, k < 24 → N.1 87 k = M.1 87 k) (h88 : ∀ k, k < 40 → N.1 88 k = M.1 88 k) (h2 : N.2 = M.2) : Rel N h d w hg f nw nd := by
  obtain ⟨r1, r2, r3, r4, r5, r6, r7, r8, r9, r10, r11, r12, r13⟩ := hR
  have hh : (h = 35 ∨ h = 58) := by rcases r1 with q | q <;> omega
  have hnw : nw ≤ 6 := r3.2.2.2.1
  have hnd : nd ≤ 8 := r3.2.2.2.2
  have cw : ∀ k, k < 4 * nw → N.1 87 k = M.1 87 k := fun k hk => h87 k (by omega)
  have cd : ∀ k, k < 5 * nd → N.1 88 k = M.1 88 k := fun k hk => h88 k (by omega)
  refine ⟨r1, ?_, r3, ?_, ?_, ?_, ?_, ?_, ?_, fun i hi => ?_, fun i hi => ?_, ?_, ?_⟩
  · rw [rows 0 (by omega) (by omega)]
    refine ⟨r2.1, r2.2.1, ?_⟩
    unfold rZ
    rw [rows 16 (by omega) (by omega), rows 56 (by omega) (by omega), rows 57 (by omega) (by omega), rows 79 (by omega) (by omega), rows 80 (by omega) (by omega)]
    exact r2.2.2
  · rw [rows 81 (by omega) (by omega), rows 5 (by omega) (by omega)]
    exact r4
  · rw [rows 3 (by omega) (by omega), rows 2 (by omega) (by omega), rows 81 (by omega) (by omega), rows 82 (by omega) (by omega)]
    exact r5
  · rw [rows 83 (by omega) (by omega)]
    exact ⟨r6.1, rW_cg cw r6.2.1, rD_cg cd r6.2.2⟩
  · exact rX_cg cw cd (rX_cong hnw hnd (fun i hi => rows (h + i) (by omega) (by omega)) r7)
  · rw [rows (h + 2) (by omega) (by omega), rows (h + 3) (by omega) (by omega), rows (h + 1) (by omega) (by omega), rows 83 (by omega) (by omega)]
    exact r8
  · rw [rows 17 (by omega) (by omega), rows 18 (by omega) (by omega), rows 19 (by omega) (by omega), rows 83 (by omega) (by omega)]
    exact r9
  · rw [rows (21 + 7 * i) (by omega) (by omega), rows (22 + 7 * i) (by omega) (by omega), rows (23 + 7 * i) (by omega) (by omega), rows (24 + 7 * i) (by omega) (by omega), rows (25 + 7 * i) (by omega) (by omega), rows (26 + 7 * i) (by omega) (by omega), rows (27 + 7 * i) (by omega) (by omega), rows 86 (by omega) (by omega), rows 85 (by omega) (by omega)]
    exact r10 i hi
  · rw [rows 83 (by omega) (by omega), cw _ (by omega), cw _ (by omega), rows (7 + i) (by omega) (by omega)]
    exact r11 i hi
  · rw [rows 15 (by omega) (by omega)]
    exact rBr_cg cw cd (rBr_cong hnw (fun i hi => rows (7 + i) (by omega) (by omega)) r12)
  · rw [h2]
    exact r13
/-- the draft of the class; what a draft is -/
def cD (M : xMem) (d w hg nw nd : Nat) (s wk dd : Nat → Int32) : Prop := (M.1 d 0 = nI w ∧ M.1 d 1 = nI hg ∧ M.1 d 2 = nI nw ∧ M.1 d 3 = nI nd) ∧ (∀ i k, i < nw → k < 4 → M.1 (d + (5 + i)) k = wk (4 * i + k)) ∧ (∀ i k, i < nd → k < 5 → M.1 (d + (12 + i)) k = dd (5 * i + k)) ∧ rG (M.1 (d + 2)) (M.1 (d + 3)) (M.1 (d + 1) 2) (M.1 (d + 1) 3) s
def vD (w hg nw nd : Nat) (s wk dd : Nat → Int32) : Prop := (1 ≤ w ∧ w ≤ 8) ∧ (1 ≤ hg ∧ hg ≤ 6) ∧ (nw ≤ 6 ∧ nd ≤ 8) ∧ rS s ∧ (rW (w * hg) nw wk ∧ rD (w * hg) nd dd) ∧ ∀ k, 194 ≤ k → s k = 0
def jP (M : xMem) (x : Nat → Int32) (n i p w hg nw nd : Nat) (s wk dd : Nat → Int32) : Prop := ∀ (K2 : Int32 → xMem → Prop) (Mr : xMem), (∀ j, 81 ≤ j → Mr.1 j = M.1 j) → (∀ Mr', rFr Mr Mr' → rAl Mr' x n p → rDf Mr' w hg nw nd s wk dd → xq2 (b_X9_hill_25 K2) (402 - i) Mr' (nI i)) → w_X9_hill Mr K2
/-- an item: all well, or the fault -/
theorem j_ok {M : xMem} {x : Nat → Int32} {n i p p' w hg nw nd w' hg' nw' nd' : Nat} {s wk dd s' wk' dd' : Nat → Int32} (hi : i ≤ 400) (hJ : jP M x n i p w hg nw nd s wk dd) (hit : ∀ (Mr : xMem) (K2 : Int32 → xMem → Prop) (r : xMem → Int32 → Prop), rAl Mr x n p → rDf Mr w hg nw nd s wk dd → (∀ M', rFr Mr M' → rAl M' x n p' → rDf M' w' hg' nw' nd' s' wk' dd' → r M' (nI (i + 1))) → b_X9_hill_25 K2 r Mr (nI i)) : jP M x n (i + 1) p' w' hg' nw' nd' s' wk' dd' := by
  intro K2 Mr hMr hgo
  refine hJ K2 Mr hMr (fun Mr' f a df => ?_)
  rw [show 402 - i = (402 - (i + 1)) + 1 by omega]
  exact hit Mr' K2 _ a df (fun M' f' a' df' => hgo M' (rFr_tr f f') a' df')
theorem j_bad {M : xMem} {x : Nat → Int32} {n i p w hg nw nd st h d w0 hg0 f0 nw0 nd0 : Nat} {s wk dd : Nat → Int32} {K : Int32 → xMem → Prop} (hR : Rel M h d w0 hg0 f0 nw0 nd0) (hK : ∀ r M1, (∀ K2 : Int32 → xMem → Prop, (∀ M2, RelE M2 → K2 r M2) → w_X9_hill M1 K2) → K r M1) (hi : i ≤ 400) (hJ : jP M x n i p w hg nw nd s wk dd) (hit : ∀ (Mr : xMem) (K2 : Int32 → xMem → Prop) (r : xMem → Int32 → Prop), rAl Mr x n p → rDf Mr w hg nw nd s wk dd → (∀ M', rFr Mr M' → rDe M' st → r M' (nI (i + 1))) → b_X9_hill_25 K2 r Mr (nI i)) : ∀ M', cF M M' d → K ((-10 : Int32) - nI st) M' := by
  intro M' hc
  have hh : (h = 35 ∧ d = 58) ∨ (h = 58 ∧ d = 35) := hR.1
  have hrel : Rel M' h d w0 hg0 f0 nw0 nd0 := Rel_same hR ⟨fun j k q => by rw [hc.1 j (fun e => q (by unfold scr; omega)) (fun e => q (by unfold scr; omega)) (fun e => q (by unfold scr; omega))], hc.2⟩
  refine hK _ _ (fun K2 h2 => ?_)
  refine hJ K2 M' (fun j hj => hc.1 j (by omega) (by omega) (by omega)) (fun Mr' f a df => ?_)
  rw [show 402 - i = (400 - i) + 1 + 1 by omega]
  refine hit Mr' K2 _ a df (fun M2 f' de => ?_)
  show b_X9_hill_25 K2 (xq2 (b_X9_hill_25 K2) (400 - i)) M2 (nI (i + 1))
  unfold b_X9_hill_25
  refine v_wellD de ⟨fun _ => ?_, fun z => absurd rfl z⟩
  unfold b_X9_hill_180
  refine v_wellD de ⟨fun z => absurd rfl z, fun _ => ?_⟩
  rw [de.1]
  have g := rFr_tr f f'
  have n1 : Rel (xrow (xrow M' 87 (M2.1 87)) 88 (M2.1 88)) h d w0 hg0 f0 nw0 nd0 := Rel_cg hrel (fun j a b => by rw [m_rrow _ _ b, m_rrow _ _ a]) (fun k hk => by rw [m_rrow _ _ (by omega), m_rsame]; exact g.2.2.1 k hk) (fun k hk => by rw [m_rsame]; exact g.2.2.2.1 k hk) rfl
  refine h2 M2 ⟨h, d, w0, hg0, f0, nw0, nd0, Rel_same n1 ⟨fun j k q => ?_, g.2.2.2.2⟩⟩
  by_cases e88 : j = 88
  · rw [e88, m_rsame]
  · by_cases e87 : j = 87
    · rw [e87, m_rrow _ _ (by omega), m_rsame]
    · rw [m_rrow _ _ e88, m_rrow _ _ e87]
      by_cases e81 : j = 81
      · subst e81
        exact g.2.1 k (by
          have : k = 3 ∨ k = 9 ∨ k = 10 ∨ k = 11 ∨ k = 20 ∨ k = 21 := Classical.byContradiction (fun z => q (by unfold scr; omega))
          omega)
      · rw [g.1 j e81 (fun e => q (by unfold scr; omega)) e87 e88]
/-- the reference's items, from the word on -/
theorem rVl_at : rVl 4 = 0 ∧ rVl 5 = 1 ∧ rVl 6 = 2 ∧ rVl 7 = 3 ∧ rVl 12 = 4 ∧ rVl 13 = 5 := by decide
theorem it_W {x : Nat → Int32} {n p i w hg nw nd : Nat} {s wk dd : Nat → Int32} (hv : vD w hg nw nd s wk dd) (hi : i ≤ 400) (hc : tkC x n p = 12) (hm : nw < 6) (Mr : xMem) (K2 : Int32 → xMem → Prop) (r : xMem → Int32 → Prop) (hA : rAl Mr x n p) (hD : rDf Mr w hg nw nd s wk dd) (hok : al (ckW x n p (w * hg)) 5 → ∀ M', rFr Mr M' → rAl M' x n (ps x n p 6) → rDf M' w hg (nw + 1) nd s (wkU x n p wk (4 * nw)) dd → r M' (nI (i + 1))) (hbad : ∀ st M', fl x n p (ckW x n p (w * hg)) 5 st → rFr Mr M' → rDe M' st → r M' (nI (i + 1))) : b_X9_hill_25 K2 r Mr (nI i) := by
  obtain ⟨v1, v2, v3, v4, v5, v6⟩ := hv
  have hN : 1 ≤ w * hg ∧ w * hg ≤ 48 := ⟨Nat.mul_pos v1.1 v2.1, Nat.mul_le_mul v1.2 v2.2⟩
  refine v_25 (by omega) hA hD v3.1 v3.2 (by omega) (fun _ M' k q => ?_) (fun nm => absurd (by unfold may; omega) nm)
  rw [hc, rVl_at.2.2.2.2.1]
  exact v_rdW q (rDf_T k hD) hm hN (fun a M2 f b c => hok a M2 (rFr_tr (rFr_T k) f) b c) (fun st M2 a f b => hbad st M2 a (rFr_tr (rFr_T k) f) b)
theorem it_D {x : Nat → Int32} {n p i w hg nw nd : Nat} {s wk dd : Nat → Int32} (hv : vD w hg nw nd s wk dd) (hi : i ≤ 400) (hc : tkC x n p = 13) (hm : nd < 8) (Mr : xMem) (K2 : Int32 → xMem → Prop) (r : xMem → Int32 → Prop) (hA : rAl Mr x n p) (hD : rDf Mr w hg nw nd s wk dd) (hok : al (ckD x n p (w * hg)) 6 → ∀ M', rFr Mr M' → rAl M' x n (ps x n p 7) → rDf M' w hg nw (nd + 1) s wk (wkU x n p dd (5 * nd)) → r M' (nI (i + 1))) (hbad : ∀ st M', fl x n p (ckD x n p (w * hg)) 6 st → rFr Mr M' → rDe M' st → r M' (nI (i + 1))) : b_X9_hill_25 K2 r Mr (nI i) := by
  obtain ⟨v1, v2, v3, v4, v5, v6⟩ := hv
  have hN : 1 ≤ w * hg ∧ w * hg ≤ 48 := ⟨Nat.mul_pos v1.1 v2.1, Nat.mul_le_mul v1.2 v2.2⟩
  refine v_25 (by omega) hA hD v3.1 v3.2 (by omega) (fun _ M' k q => ?_) (fun nm => absurd (by unfold may; omega) nm)
  rw [hc, rVl_at.2.2.2.2.2]
  exact v_rdD q (rDf_T k hD) hm hN (fun a M2 f b c => hok a M2 (rFr_tr (rFr_T k) f) b c) (fun st M2 a f b => hbad st M2 a (rFr_tr (rFr_T k) f) b)
theorem it_H {x : Nat → Int32} {n p i w hg nw nd : Nat} {s wk dd : Nat → Int32} (hv : vD w hg nw nd s wk dd) (hi : i ≤ 400) (hc : tkC x n p = 4) (hm : i = 0) (Mr : xMem) (K2 : Int32 → xMem → Prop) (r : xMem → Int32 → Prop) (hA : rAl Mr x n p) (hD : rDf Mr w hg nw nd s wk dd) (hok : al (ckH x n p) 3 → ∀ M', rFr Mr M' → rAl M' x n (ps x n p 4) → rDf M' (tkV x n (ps x n p 1)) (tkV x n (ps x n p 2)) nw nd s wk dd → r M' (nI (i + 1))) (hbad : ∀ st M', fl x n p (ckH x n p) 3 st → rFr Mr M' → rDe M' st → r M' (nI (i + 1))) : b_X9_hill_25 K2 r Mr (nI i) := by
  obtain ⟨v1, v2, v3, v4, v5, v6⟩ := hv
  refine v_25 (by omega) hA hD v3.1 v3.2 (by omega) (fun _ M' k q => ?_) (fun nm => absurd (by unfold may; omega) nm)
  rw [hc, rVl_at.1]
  exact v_rdH q (rDf_T k hD) (fun a M2 f b c => hok a M2 (rFr_tr (rFr_T k) f) b c) (fun st M2 a f b => hbad st M2 a (rFr_tr (rFr_T k) f) b)
theorem it_B {x : Nat → Int32} {n p i w hg nw nd mx o : Nat} {s wk dd : Nat → Int32} (hv : vD w hg nw nd s wk dd) (hi : i ≤ 400) (hc : (tkC x n p = 5 ∧ mx = 3 ∧ o = 0) ∨ (tkC x n p = 6 ∧ mx = 9 ∧ o = 96)) (Mr : xMem) (K2 : Int32 → xMem → Prop) (r : xMem → Int32 → Prop) (hA : rAl Mr x n p) (hD : rDf Mr w hg nw nd s wk dd) (hok : al (ckB x n p w (w * hg) mx) 4 → ∀ M', rFr Mr M' → rAl M' x n (ps x n p 5) → rDf M' w hg nw nd (upd s (o + (loN (tkV x n (ps x n p 1)) (tkV x n (ps x n p 2)) + if nbAl w (tkV x n (ps x n p 1)) (tkV x n (ps x n p 2)) = true then 48 else 0)) (nI (tkV x n (ps x n p 3)))) wk dd → r M' (nI (i + 1))) (hbad : ∀ st M', fl x n p (ckB x n p w (w * hg) mx) 4 st → rFr Mr M' → rDe M' st → r M' (nI (i + 1))) : b_X9_hill_25 K2 r Mr (nI i) := by
  obtain ⟨v1, v2, v3, v4, v5, v6⟩ := hv
  have hN : 1 ≤ w * hg ∧ w * hg ≤ 48 := ⟨Nat.mul_pos v1.1 v2.1, Nat.mul_le_mul v1.2 v2.2⟩
  have hk : ((rVl (tkC x n p) = 1 ∧ mx = 3 ∧ o = 0) ∨ (rVl (tkC x n p) = 2 ∧ mx = 9 ∧ o = 96)) := by
    rcases hc with ⟨a, b⟩ | ⟨a, b⟩
    · rw [a]
      exact Or.inl ⟨rVl_at.2.1, b⟩
    · rw [a]
      exact Or.inr ⟨rVl_at.2.2.1, b⟩
  refine v_25 (by omega) hA hD v3.1 v3.2 (by omega) (fun _ M' k q => ?_) (fun nm => absurd (by unfold may; omega) nm)
  exact v_rdB q (rDf_T k hD) v1 hN hk (fun a M2 f b c => hok a M2 (rFr_tr (rFr_T k) f) b c) (fun st M2 a f b => hbad st M2 a (rFr_tr (rFr_T k) f) b)
theorem it_V {x : Nat → Int32} {n p i w hg nw nd : Nat} {s wk dd : Nat → Int32} (hv : vD w hg nw nd s wk dd) (hi : i ≤ 400) (hc : tkC x n p = 7) (Mr : xMem) (K2 : Int32 → xMem → Prop) (r : xMem → Int32 → Prop) (hA : rAl Mr x n p) (hD : rDf Mr w hg nw nd s wk dd) (hok : al (ckV x n p) 3 → ∀ M', rFr Mr M' → rAl M' x n (ps x n p 4) → rDf M' w hg nw nd (upd s (192 + wdK (tkC x n (ps x n p 1))) (wdV (tkC x n (ps x n p 1)) (tkV x n (ps x n p 2)))) wk dd → r M' (nI (i + 1))) (hbad : ∀ st M', fl x n p (ckV x n p) 3 st → rFr Mr M' → rDe M' st → r M' (nI (i + 1))) : b_X9_hill_25 K2 r Mr (nI i) := by
  obtain ⟨v1, v2, v3, v4, v5, v6⟩ := hv
  refine v_25 (by omega) hA hD v3.1 v3.2 (by omega) (fun _ M' k q => ?_) (fun nm => absurd (by unfold may; omega) nm)
  rw [hc, rVl_at.2.2.2.1]
  exact v_rdV q (rDf_T k hD) (fun a M2 f b c => hok a M2 (rFr_tr (rFr_T k) f) b c) (fun st M2 a f b => hbad st M2 a (rFr_tr (rFr_T k) f) b)
theorem it_0 {x : Nat → Int32} {n p i w hg nw nd : Nat} {s wk dd : Nat → Int32} (hv : vD w hg nw nd s wk dd) (hi : i ≤ 400) (h0 : tkC x n p ≠ 0) (hm : ¬ may (tkC x n p) i nw nd) (Mr : xMem) (K2 : Int32 → xMem → Prop) (r : xMem → Int32 → Prop) (hA : rAl Mr x n p) (hD : rDf Mr w hg nw nd s wk dd) (hbad : ∀ M', rFr Mr M' → rDe M' (tkS x n p) → r M' (nI (i + 1))) : b_X9_hill_25 K2 r Mr (nI i) := by
  obtain ⟨v1, v2, v3, v4, v5, v6⟩ := hv
  exact v_25 (by omega) hA hD v3.1 v3.2 h0 (fun m => absurd m hm) (fun _ M' k q => hbad M' (rFr_T k) q)
