/-! saw -/
def oweS (T : Nat → Int32) (dd : Nat → Int32) (hr yard : Nat) : Nat → Int32
  | 0 => 0
  | n + 1 => if holdB dd hr n = true ∧ dd (5 * n) ≠ nI yard ∧ ¬ T (dd (5 * n)).toNatClampNeg ≤ dd (5 * n + 3) then oweS T dd hr yard n + dd (5 * n + 4) else oweS T dd hr yard n
theorem oweS_cong {T T' dd : Nat → Int32} {hr yard : Nat} : ∀ n, (∀ i, i < n → T (dd (5 * i)).toNatClampNeg = T' (dd (5 * i)).toNatClampNeg) → oweS T dd hr yard n = oweS T' dd hr yard n
  | 0, _ => rfl
  | n + 1, h => by
    unfold oweS
    rw [oweS_cong n (fun i hi => h i (Nat.lt_succ_of_lt hi)), h n (Nat.lt_succ_self n)]
/-- what a saw owes, yard by yard -/
theorem owe_fun {n nd w hg f hr z : Nat} {s dd : Nat → Int32} (hD : rD (w * hg) nd dd) (hn : w * hg < 1000) : ∃ o : Nat → Int32, ∀ yard row, rL w hg f s yard z row → oweS row dd hr yard nd = o yard := by
  have key : ∀ yard, ∃ x, ∀ row, rL w hg f s yard z row → oweS row dd hr yard nd = x := fun yard => by
    by_cases e : ∃ row, rL w hg f s yard z row
    · obtain ⟨r0, h0⟩ := e
      refine ⟨oweS r0 dd hr yard nd, fun row h => oweS_cong nd (fun i hi => ?_)⟩
      obtain ⟨⟨y, y1, y2⟩, _⟩ := hD i hi
      rw [y2, nI_clamp (by omega)]
      exact rL_uniq h h0 y y1
    · exact ⟨0, fun row h => absurd ⟨row, h⟩ e⟩
  exact ⟨fun y => Classical.choose (key y), fun y => Classical.choose_spec (key y)⟩
def sawS (o : Nat → Int32) : Nat → Int32 × Int32
  | 0 => (0, o 0)
  | n + 1 => if (sawS o n).2 ≤ o (n + 1) then sawS o n else (nI (n + 1), o (n + 1))
theorem sawS_yard {o : Nat → Int32} : ∀ n, ∃ y, y ≤ n ∧ (sawS o n).1 = nI y
  | 0 => ⟨0, Nat.le_refl _, rfl⟩
  | n + 1 => by
    obtain ⟨y, y1, y2⟩ := sawS_yard (o := o) n
    show ∃ y, y ≤ n + 1 ∧ (if (sawS o n).2 ≤ o (n + 1) then sawS o n else (nI (n + 1), o (n + 1))).1 = nI y
    split
    · exact ⟨y, by omega, y2⟩
    · exact ⟨n + 1, Nat.le_refl _, rfl⟩
theorem u_owed {M : xMem} {h w hg f nd hr z yard : Nat} {s dd : Nat → Int32} {post : Int32 → xMem → Prop} (hh : h = 35 ∨ h = 58) (e05 : M.1 0 5 = nI h) (hw : 1 ≤ w ∧ w ≤ 8) (hg2 : hg ≤ 6) (hf : f < 10) (hN : w * hg ≤ 48) (hnd : nd ≤ 8) (hr12 : hr < 12) (hz : z < 1000) (hy : yard < w * hg) (hS : rS s) (hD : rD (w * hg) nd dd) (e0 : M.1 h 0 = nI w) (e1 : M.1 h 1 = nI hg) (e3 : M.1 h 3 = nI nd) (e5 : M.1 5 2 = nI f) (hG : rG (M.1 (h + 2)) (M.1 (h + 3)) (M.1 (h + 1) 2) (M.1 (h + 1) 3) s) (hdd : ∀ i k, i < nd → k < 5 → M.1 (h + (12 + i)) k = dd (5 * i + k)) (hb : bitsOf (M.1 (h + 20) hr) nd (fun d => dHold dd d hr)) (hK : ∀ M', (∀ j, j ≠ 13 → M'.1 j = M.1 j) → M'.2 = M.2 → (∀ x, (∃ row, rL w hg f s yard z row ∧ x = oweS row dd hr yard nd) → post x M')) : w_X8_owedFrom M (nI yard) (nI z) (nI hr) post := by
  have kh : kd h = 2 := by rcases hh with rfl | rfl <;> decide
  have kh1 : kd (h + 1) = 0 := by rcases hh with rfl | rfl <;> decide
  have c0 : (0 : Int32).toNatClampNeg = 0 := by decide
  have c3 : (3 : Int32).toNatClampNeg = 3 := by decide
  have c4 : (4 : Int32).toNatClampNeg = 4 := by decide
  have e05' : (M.1 0 5).toNatClampNeg = h := by rw [e05]; exact nI_clamp (by omega)
  unfold w_X8_owedFrom w_X6_hearSaw
  rw [e05']
  refine u_spread (R := 13) hw.1 hw.2 hg2 hf hN kh (by decide) (by decide) kh1 (by omega) hy hz hS e0 e1 e5 hG (fun M2 a1 a2 a3 => ?_)
  have g05 : (M2.1 0 5).toNatClampNeg = h := by rw [a1 0 (by omega)]; exact e05'
  refine xlp5_of (I := fun M' p1 p3 x q => M' = M2 ∧ p1 = nI yard ∧ p3 = nI hr ∧ ∃ k, k ≤ nd ∧ q = nI k ∧ x = oweS (M2.1 13) dd hr yard k) (mu := fun _ _ _ _ q => nd - q.toNatClampNeg) ?_ ⟨rfl, rfl, rfl, 0, Nat.zero_le _, rfl, rfl⟩
  intro r M' p1 p3 x q hI hr'
  obtain ⟨rfl, rfl, rfl, k, hk, rfl, rfl⟩ := hI
  unfold b_X8_owedFrom_19
  rw [g05, show M'.1 h 3 = nI nd by rw [a1 h (by omega)]; exact e3]
  refine ⟨kh, fun q => ?_, fun q => ?_⟩
  · have e : k = nd := Nat.le_antisymm hk ((nI_cond (by omega) (by omega)).mp q)
    subst e
    exact hK M' a1 a2 _ ⟨_, a3, rfl⟩
  · have hl : k < nd := Nat.lt_of_not_le (fun q2 => q ((nI_cond (by omega) (by omega)).mpr q2))
    obtain ⟨d10, d6⟩ := row_d hh (show k < 8 by omega)
    obtain ⟨⟨y, y1, y2⟩, -⟩ := hD k hl
    have fd : ∀ c, c < 5 → M'.1 (h + 11 + 1 + k) c = dd (5 * k + c) := fun c hc => by
      rw [show h + 11 + 1 + k = h + (12 + k) by omega, a1 _ (by omega)]
      exact hdd k c hl hc
    have y2' : M'.1 (h + 11 + 1 + k) 0 = nI y := (fd 0 (by omega)).trans y2
    have un : oweS (M'.1 13) dd hr yard (k + 1) = if holdB dd hr k = true ∧ dd (5 * k) ≠ nI yard ∧ ¬ M'.1 13 (dd (5 * k)).toNatClampNeg ≤ dd (5 * k + 3) then oweS (M'.1 13) dd hr yard k + dd (5 * k + 4) else oweS (M'.1 13) dd hr yard k := rfl
    have nx : ∀ x', x' = oweS (M'.1 13) dd hr yard (k + 1) → b_X8_owedFrom_108 post r M' (nI yard) (nI hr) x' (nI k) := fun x' e => by
      unfold b_X8_owedFrom_108
      rw [nI_1]
      refine hr' _ _ _ _ _ ⟨rfl, rfl, rfl, k + 1, hl, rfl, e⟩ ?_
      show nd - (nI (k + 1)).toNatClampNeg < nd - (nI k).toNatClampNeg
      rw [nI_clamp (by omega), nI_clamp (by omega)]
      omega
    have hb' : bitsOf (M'.1 (h + 20) hr) nd (fun d => dHold dd d hr) := by rw [a1 _ (by omega)]; exact hb
    obtain ⟨g1, g0⟩ := bitsOf_get (by omega) hb' hl
    refine ⟨vp_in_nI (by omega) (by omega), vp_in_nI hr12 (by omega), ?_⟩
    rw [nI_clamp (by omega), nI_clamp (by omega)]
    unfold b_X8_owedFrom_65
    refine ⟨fun z0 => ⟨fun _ => nx _ ?_, fun z1 => absurd rfl z1⟩, fun z0 => ⟨fun z1 => absurd z1 (by decide), fun _ => ?_⟩⟩
    · have : ¬ holdB dd hr k = true := fun a => by
        rw [g1 (holdB_iff.mp a)] at z0
        exact absurd z0 (by decide)
      rw [un, if_neg (fun a => this a.1)]
    · have ho : holdB dd hr k = true := holdB_iff.mpr (Classical.byContradiction (fun a => z0 (g0 a)))
      rw [c0, c3, c4, y2', d6, nI_clamp (by omega), fd 3 (by omega), fd 4 (by omega)]
      refine ⟨d10, q_in (k := 0) (by omega) (by omega), fun e => nx _ ?_, fun ne => ⟨vp_in_nI (by omega) (by omega), q_in (k := 3) (by omega) (by omega), fun le => nx _ ?_, fun nle => ⟨q_in (k := 4) (by omega) (by omega), fun v9 e9 => nx _ ?_⟩⟩⟩
      · rw [un, if_neg (fun a => a.2.1 (y2.trans e))]
      · rw [un, if_neg (fun a => a.2.2 (by rw [y2, nI_clamp (by omega)]; exact le))]
      · rw [un, if_pos ⟨ho, fun a => ne (y2.symm.trans a), fun a => nle (by rw [y2, nI_clamp (by omega)] at a; exact a)⟩, e9]
theorem P_saw {M : xMem} (hR : RelE M) (a0 : Int32) (a1 : Int32) (a2 : Int32) {K : Int32 → xMem → Prop} (hK : ∀ r M1, (∀ K2 : Int32 → xMem → Prop, (∀ M2, RelE M2 → K2 r M2) → w_X9_saw M1 a0 a1 a2 K2) → K r M1) : w_X8_saw M a0 a1 a2 K := by
  obtain ⟨h, d, w, hg, f, nw, nd, hR⟩ := hR
  obtain ⟨hh, e5, hk⟩ := Rel_h hR
  obtain ⟨r1, r2, r3, r4, r5, r6, r7, r8, r9, r10, r11, r12, r13⟩ := id hR
  have hb := (rB_bounds r3).2
  have hb1 := (rB_bounds r3).1
  have hnd : nd ≤ 8 := r3.2.2.2.2
  have hthrE : RelE (xset M 81 0 0) := ⟨h, d, w, hg, f, nw, nd, Rel_thr hR⟩
  have e1' : (1 : Int32).toInt = 1 := by decide
  have e99 : (99 : Int32).toInt = 99 := by decide
  unfold w_X8_saw
  refine u_within (fun x y => z_f ?_) (fun q => z_t (hK _ _ (fun K2 h2 => ?_)))
  · refine u_isHour (fun i1 => z_f ?_) (fun i1 => z_t (hK _ _ (fun K2 h2 => ?_)))
    · refine u_isBit (fun i2 => z_nf ?_) (fun i2 => z_nt (hK _ _ (fun K2 h2 => ?_)))
      · obtain ⟨z, z1, rfl⟩ : ∃ z : Nat, z < 100 ∧ a0 = nI z := by
          have x' := x
          have y' := y
          rw [q_le, e1'] at x'
          rw [q_le, e99] at y'
          refine ⟨a0.toInt.toNat, by omega, ?_⟩
          apply (q_eq _ _).mpr
          rw [q_toI _ (by omega)]
          omega
        obtain ⟨hr, hr1, rfl⟩ := id i1
        obtain ⟨o, ho⟩ := owe_fun (n := w * hg) (nd := nd) (w := w) (hg := hg) (f := f) (hr := hr) (z := z) (s := M.1 83) (dd := M.1 88) r6.2.2 (by omega)
        have owed : ∀ (M' : xMem) (yard : Nat) (post : Int32 → xMem → Prop), yard < w * hg → (∀ j, j ≠ 13 → M'.1 j = M.1 j) → M'.2 = M.2 → (∀ M3, (∀ j, j ≠ 13 → M3.1 j = M.1 j) → M3.2 = M.2 → post (o yard) M3) → w_X8_owedFrom M' (nI yard) (nI z) (nI hr) post := fun M' yard post hy g1 g2 hp => by
          refine u_owed (w := w) (hg := hg) (f := f) (nd := nd) (s := M.1 83) (dd := M.1 88) hh (by rw [g1 0 (by omega)]; exact r2.1) r3.1 r3.2.1.2 (by have := r3.2.2.1; omega) hb hnd hr1 (by omega) hy r6.1 r6.2.2 (by rw [g1 h (by omega)]; exact r7.1.1) (by rw [g1 h (by omega)]; exact r7.1.2.1) (by rw [g1 h (by omega)]; exact r7.1.2.2.2) (by rw [g1 5 (by omega)]; exact r4.2.2.2.2.2) (by rw [g1 (h + 1) (by omega), g1 (h + 2) (by omega), g1 (h + 3) (by omega)]; exact r8) (fun i k hi hk => by rw [g1 _ (by omega)]; exact r7.2.2.1 i k hi hk) (by rw [g1 _ (by omega)]; exact r7.2.2.2.1 hr hr1) (fun M3 b1 b2 x hx => ?_)
          obtain ⟨row, q1, q2⟩ := hx
          rw [q2, ho yard row q1]
          exact hp M3 (fun j hj => (b1 j hj).trans (g1 j hj)) (b2.trans g2)
        have ans : ∀ M3, (∀ j, j ≠ 13 → M3.1 j = M.1 j) → M3.2 = M.2 → K (if a2 = 0 then (sawS o (w * hg - 1)).1 else (sawS o (w * hg - 1)).2) M3 := fun M3 g1 g2 => by
          refine hK _ _ (fun K2 h2 => ?_)
          unfold w_X9_saw
          intro M1 e1
          refine u_in (fun _ _ => z_f ?_) (fun q => absurd ⟨x, y⟩ q)
          refine v_isHour (fun _ => z_f ?_) (fun q => absurd i1 q)
          refine v_isBit (fun _ => z_nf ?_) (fun q => absurd i2 q)
          have m : ∀ j, j ≠ 13 → j ≠ 81 → M1.1 j = M.1 j := fun j p q => by rw [e1, m_row _ _ _ q, g1 j p]
          have m81 : ∀ k, k ≠ 0 → M1.1 81 k = M.1 81 k := fun k p => by rw [e1, m_col _ _ _ p, g1 81 (by omega)]
          have m2 : M1.2 = M.2 := by rw [e1, m_snd, g2]
          refine xlp7_of (I := fun M' p1 p2 p3 p4 p5 q => p1 = nI z ∧ p2 = nI hr ∧ p3 = a2 ∧ (∀ j, j ≠ 89 → M'.1 j = M1.1 j) ∧ M'.2 = M.2 ∧ ∃ k, k ≤ w * hg ∧ q = nI k ∧ ((k = 0 ∧ p4 = -9 ∧ p5 = 0) ∨ (0 < k ∧ (p4, p5) = sawS o (k - 1)))) (mu := fun _ _ _ _ _ _ q => w * hg - q.toNatClampNeg) ?_ ⟨rfl, rfl, rfl, fun _ _ => rfl, m2, 0, Nat.zero_le _, rfl, Or.inl ⟨rfl, rfl, rfl⟩⟩
          intro r M' p1 p2 p3 p4 p5 q hI hr'
          obtain ⟨rfl, rfl, rfl, h1, h3, k, hk', rfl, hs⟩ := hI
          have n81 : ∀ c, c ≠ 0 → M'.1 81 c = M.1 81 c := fun c hc => by rw [h1 81 (by omega)]; exact m81 c hc
          have nN : M'.1 81 9 * M'.1 81 10 = nI (w * hg) := by rw [n81 9 (by omega), n81 10 (by omega), r4.1, r4.2.1, pk_mul]
          unfold b_X9_saw_41
          rw [nN]
          refine ⟨fun q => ?_, fun q => ?_⟩
          · have e : k = w * hg := Nat.le_antisymm hk' ((nI_cond (by omega) (by omega)).mp q)
            have es : (p4, p5) = sawS o (w * hg - 1) := by
              rcases hs with ⟨k0, _⟩ | ⟨_, es⟩
              · omega
              · rw [← e]
                exact es
            rw [← es] at h2
            have hrel : RelE M' := ⟨h, d, w, hg, f, nw, nd, Rel_same hR ⟨fun i k q => by
              by_cases e81 : i = 81
              · subst e81
                exact n81 k (fun e => q (by unfold scr; omega))
              · rw [h1 i (fun e => q (by unfold scr; omega)), m i (fun e => q (by unfold scr; omega)) e81], h3⟩⟩
            refine ⟨fun n0 => ?_, fun y0 => ?_⟩
            · have := h2 M' hrel
              rw [if_neg n0] at this
              exact this
            · have := h2 M' hrel
              rw [if_pos y0] at this
              exact this
          · have hl : k < w * hg := Nat.lt_of_not_le (fun q2 => q ((nI_cond (by omega) (by omega)).mpr q2))
            have n83 : M'.1 83 = M.1 83 := by rw [h1 83 (by omega), m 83 (by omega) (by omega)]
            have n88 : M'.1 88 = M.1 88 := by rw [h1 88 (by omega), m 88 (by omega) (by omega)]
            refine v_spreads (i := 6) (by rw [n81 9 (by omega)]; exact r4.1) (by rw [n81 10 (by omega)]; exact r4.2.1) (by rw [n81 11 (by omega)]; exact r4.2.2.1) (by rw [n83]; exact r6.1) r3.1.1 r3.1.2 (by have := r3.2.2.1; omega) hb (by omega) hl (by omega) (fun M4 b1 b2 b3 b4 => ?_)
            rw [n83] at b4
            have t88 : M4.1 88 = M.1 88 := (b1 88 (by omega)).trans n88
            have t81 : ∀ c, c ≠ 0 → M4.1 81 c = M.1 81 c := fun c hc => by rw [b1 81 (by omega)]; exact n81 c hc
            have nxt : ∀ p4' p5', (p4', p5') = sawS o k → b_X9_saw_195 K2 r M4 (nI z) (nI hr) p3 p4' p5' (nI k) := fun p4' p5' e => by
              unfold b_X9_saw_195
              rw [nI_1]
              refine hr' _ _ _ _ _ _ _ ⟨rfl, rfl, rfl, fun j hj => (b1 j hj).trans (h1 j hj), b2.trans h3, k + 1, hl, rfl, Or.inr ⟨by omega, e⟩⟩ ?_
              show w * hg - (nI (k + 1)).toNatClampNeg < w * hg - (nI k).toNatClampNeg
              rw [nI_clamp (by omega), nI_clamp (by omega)]
              omega
            have ok := ho k (fun y => M4.1 89 (48 * 6 + y)) b4
            refine cnt9 nd (by omega) (fun j a b => a = nI k ∧ b = oweS (fun y => M4.1 89 (48 * 6 + y)) (M.1 88) hr k j) ⟨rfl, rfl⟩ (fun r2 j a b hj hab hr2 => ?_)
            obtain ⟨rfl, rfl⟩ := hab
            unfold b_X9_saw_70
            rw [t81 21 (by omega), r4.2.2.2.2.1]
            refine ⟨fun q => ?_, fun q => ?_⟩
            · have e : j = nd := Nat.le_antisymm hj ((nI_cond (by omega) (by omega)).mp q)
              rw [e, ok]
              unfold b_X9_saw_187
              rcases hs with ⟨k0, p40, p50⟩ | ⟨kp, es⟩
              · subst k0
                exact ⟨fun _ => nxt _ _ rfl, fun n9 => absurd p40 n9⟩
              · obtain ⟨k', rfl⟩ : ∃ k', k = k' + 1 := ⟨k - 1, by omega⟩
                rw [Nat.add_sub_cancel] at es
                have un : sawS o (k' + 1) = if p5 ≤ o (k' + 1) then (p4, p5) else (nI (k' + 1), o (k' + 1)) := by
                  show (if (sawS o k').2 ≤ o (k' + 1) then sawS o k' else (nI (k' + 1), o (k' + 1))) = _
                  rw [← es]
                obtain ⟨yy, yy1, yy2⟩ := sawS_yard (o := o) k'
                rw [← es] at yy2
                have p4n : ¬ p4 = -9 := fun z9 => nI_n9 (n := yy) (by omega) (yy2.symm.trans z9)
                refine ⟨fun z9 => absurd z9 p4n, fun _ => ⟨fun le => nxt _ _ ?_, fun nle => nxt _ _ ?_⟩⟩
                · rw [un, if_pos le]
                · rw [un, if_neg nle]
            · have hlj : j < nd := Nat.lt_of_not_le (fun q2 => q ((nI_cond (by omega) (by omega)).mpr q2))
              have five : (5 : Int32) * nI j = nI (5 * j) := by rw [show (5 : Int32) = nI 5 from rfl, pk_mul]
              have f3 : nI (5 * j) + (3 : Int32) = nI (5 * j + 3) := nI_add (5 * j) 3
              have f4 : nI (5 * j) + (4 : Int32) = nI (5 * j + 4) := nI_add (5 * j) 4
              obtain ⟨⟨y', y1', y2'⟩, -⟩ := r6.2.2 j hlj
              have un : oweS (fun y => M4.1 89 (48 * 6 + y)) (M.1 88) hr k (j + 1) = if holdB (M.1 88) hr j = true ∧ M.1 88 (5 * j) ≠ nI k ∧ ¬ M4.1 89 (48 * 6 + (M.1 88 (5 * j)).toNatClampNeg) ≤ M.1 88 (5 * j + 3) then oweS (fun y => M4.1 89 (48 * 6 + y)) (M.1 88) hr k j + M.1 88 (5 * j + 4) else oweS (fun y => M4.1 89 (48 * 6 + y)) (M.1 88) hr k j := rfl
              have s0 : ¬ (holdB (M.1 88) hr j = true ∧ M.1 88 (5 * j) ≠ nI k ∧ ¬ M4.1 89 (48 * 6 + (M.1 88 (5 * j)).toNatClampNeg) ≤ M.1 88 (5 * j + 3)) → b_X9_saw_139 K2 r r2 M4 (nI z) (nI hr) p3 p4 p5 (nI k) (oweS (fun y => M4.1 89 (48 * 6 + y)) (M.1 88) hr k j) (nI j) := fun c => by
                unfold b_X9_saw_139 b_X9_saw_140 b_X9_saw_164
                refine ⟨fun _ => ?_, fun z => absurd rfl z⟩
                rw [nI_1]
                refine hr2 hlj _ _ ⟨rfl, ?_⟩
                rw [un, if_neg c, Int32.add_zero]
              refine v_holds (by omega) hr1 (fun hH => z_f ?_) (fun hH => z_t (s0 (fun c => hH (by rw [t88]; exact holdB_iff.mp c.1))))
              rw [five, f3, nI_clamp (by omega), nI_clamp (by omega)]
              have v88 : ∀ c, M4.1 (81 + 7) c = M.1 88 c := fun c => congrFun t88 c
              rw [v88, v88, y2']
              have a288 : (288 : Int32) + nI y' = nI (48 * 6 + y') := by rw [show (288 : Int32) = nI 288 from rfl, nI_add]
              rw [a288, nI_clamp (by omega)]
              refine ⟨vp_in_nI (by omega) (by omega), fun e => s0 (fun c => c.2.1 (y2'.trans e)), fun ne => ⟨vp_in_nI (by omega) (by omega), vp_in_nI (by omega) (by omega), fun le => s0 (fun c => c.2.2 ?_), fun nle => ?_⟩⟩
              · rw [y2', nI_clamp (by omega)]
                exact le
              · unfold b_X9_saw_140 b_X9_saw_164
                refine ⟨fun z => absurd z (by decide), fun _ => ?_⟩
                rw [five, f4, nI_clamp (by omega), v88, nI_1]
                refine ⟨vp_in_nI (by omega) (by omega), hr2 hlj _ _ ⟨rfl, ?_⟩⟩
                rw [un, if_pos ⟨holdB_iff.mpr (by rw [t88] at hH; exact hH), fun a => ne (y2'.symm.trans a), fun a => nle (by rw [y2', nI_clamp (by omega)] at a; exact a)⟩]
        refine owed M 0 _ (by omega) (fun _ _ => rfl) rfl (fun M3 g1 g2 => ?_)
        refine xlp7_of (I := fun M' p1 p2 p3 p4 p5 q => p1 = nI z ∧ p2 = nI hr ∧ p3 = a2 ∧ (∀ j, j ≠ 13 → M'.1 j = M.1 j) ∧ M'.2 = M.2 ∧ ∃ k, k < w * hg ∧ q = nI (k + 1) ∧ (p5, p4) = sawS o k) (mu := fun _ _ _ _ _ _ q => w * hg - q.toNatClampNeg) ?_ ⟨rfl, rfl, rfl, g1, g2, 0, by omega, rfl, rfl⟩
        intro r M' p1 p2 p3 p4 p5 q hI hr'
        obtain ⟨rfl, rfl, rfl, h1, h3, k, hk', rfl, es⟩ := hI
        unfold b_X8_saw_41 w_X2_yards
        rw [show (M'.1 0 5).toNatClampNeg = h by rw [h1 0 (by omega)]; exact e5]
        rw [show M'.1 h 0 * M'.1 h 1 = nI (w * hg) by rw [h1 h (by omega), show M.1 h 0 = nI w from r7.1.1, show M.1 h 1 = nI hg from r7.1.2.1, pk_mul]]
        refine ⟨hk, fun q => ?_, fun q => ?_⟩
        · have := (nI_cond (by omega) (by omega)).mp q
          have a := ans M' h1 h3
          rw [show w * hg - 1 = k by omega, ← es] at a
          refine ⟨fun n0 => ?_, fun y0 => ?_⟩
          · rw [if_neg n0] at a
            exact a
          · rw [if_pos y0] at a
            exact a
        · have hl : k + 1 < w * hg := Nat.lt_of_not_le (fun q2 => q ((nI_cond (by omega) (by omega)).mpr q2))
          refine owed M' (k + 1) _ hl h1 h3 (fun M7 c1 c2 => ?_)
          have un : sawS o (k + 1) = if p4 ≤ o (k + 1) then (p5, p4) else (nI (k + 1), o (k + 1)) := by
            show (if (sawS o k).2 ≤ o (k + 1) then sawS o k else (nI (k + 1), o (k + 1))) = _
            rw [← es]
          have nx : ∀ p4' p5', (p5', p4') = sawS o (k + 1) → b_X8_saw_78 K r M7 (nI z) (nI hr) p3 p4' p5' (nI (k + 1)) := fun p4' p5' e => by
            unfold b_X8_saw_78
            rw [nI_1]
            refine hr' _ _ _ _ _ _ _ ⟨rfl, rfl, rfl, c1, c2, k + 1, hl, rfl, e⟩ ?_
            show w * hg - (nI (k + 1 + 1)).toNatClampNeg < w * hg - (nI (k + 1)).toNatClampNeg
            rw [nI_clamp (by omega), nI_clamp (by omega)]
            omega
          refine ⟨fun le => nx _ _ ?_, fun nle => nx _ _ ?_⟩
          · rw [un, if_pos le]
          · rw [un, if_neg nle]
      · unfold w_X9_saw
        intro M1 e1
        subst e1
        refine u_in (fun _ _ => z_f ?_) (fun q => absurd ⟨x, y⟩ q)
        refine v_isHour (fun _ => z_f ?_) (fun q => absurd i1 q)
        exact v_isBit (fun q => absurd q i2) (fun _ => z_nt (h2 _ hthrE))
    · unfold w_X9_saw
      intro M1 e1
      subst e1
      refine u_in (fun _ _ => z_f ?_) (fun q => absurd ⟨x, y⟩ q)
      exact v_isHour (fun q => absurd q i1) (fun _ => z_t (h2 _ hthrE))
  · unfold w_X9_saw
    intro M1 e1
    subst e1
    exact u_in (fun x y => absurd ⟨x, y⟩ q) (fun _ => z_t (h2 _ hthrE))
