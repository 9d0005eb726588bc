/-! best: the reference, the pair -/
/-- how far the reference is at a pair -/
noncomputable def stB (D : (Nat → Int32) → Int32) (s : Nat → Int32) (w n o : Nat) (mx : Int32) (a b : Nat) : Int32 × Int32 := if b ≤ a + 1 then bestS D s w n o mx (2 * a) else if b ≤ a + w then bestS D s w n o mx (2 * a + 1) else bestS D s w n o mx (2 * a + 2)
theorem beyN_even {w n a : Nat} : beyN w n (2 * a) = if (a + 1) % w ≠ 0 ∧ a < n then a + 1 else 0 := by
  unfold beyN
  rw [if_pos (by omega), show 2 * a / 2 = a by omega]
theorem beyN_odd {w n a : Nat} : beyN w n (2 * a + 1) = if a + w < n then a + w else 0 := by
  unfold beyN
  rw [if_neg (by omega), show (2 * a + 1) / 2 = a by omega]
theorem nb_lt {w a b : Nat} (hw : 1 ≤ w) (hab : a < b) : nbE w a b ↔ b = a + w ∨ (b = a + 1 ∧ a % w < w - 1) := by
  have := nb_iff (w := w) (a := a) (b := b) hw
  unfold hiN loN at this
  rw [if_pos hab, if_pos hab] at this
  exact this
/-- a pair that is none, or none that may have more: on -/
theorem stB_no {D : (Nat → Int32) → Int32} {s : Nat → Int32} {w hg o : Nat} {mx : Int32} {a b : Nat} (hw : 1 ≤ w) (hab : a < b) (hn : ¬ nbE w a b) : stB D s w (w * hg) o mx a (b + 1) = stB D s w (w * hg) o mx a b := by
  have hn' := fun z => hn ((nb_lt hw hab).mpr z)
  have h1 : b ≠ a + w := fun z => hn' (Or.inl z)
  unfold stB
  by_cases e : b = a + 1
  · subst e
    have w1 : w ≠ 1 := fun z => h1 (by rw [z])
    have hm : ¬ a % w < w - 1 := fun z => hn' (Or.inr ⟨rfl, z⟩)
    rw [if_neg (by omega), if_pos (by omega), if_pos (by omega)]
    refine bestS_skip (Or.inl ?_)
    rw [beyN_even, if_neg (fun z => z.1 ((mod_one hw).mpr hm))]
  · rw [if_neg (show ¬ b + 1 ≤ a + 1 by omega), if_neg (show ¬ b ≤ a + 1 by omega)]
    by_cases e2 : b ≤ a + w
    · rw [if_pos (show b + 1 ≤ a + w by omega), if_pos e2]
    · rw [if_neg (show ¬ b + 1 ≤ a + w by omega), if_neg e2]
/-- a pair of neighbours is a border -/
theorem stB_yes {D : (Nat → Int32) → Int32} {s : Nat → Int32} {w hg o : Nat} {mx : Int32} {a b : Nat} (hw : 1 ≤ w) (hab : a < b) (hb : b < w * hg) (hn : nbE w a b) : ∃ k, k < 2 * (w * hg) ∧ k / 2 = a ∧ beyN w (w * hg) k = b ∧ spN o k = o + (loN a b + if nbAl w a b = true then 48 else 0) ∧ bestS D s w (w * hg) o mx k = stB D s w (w * hg) o mx a b ∧ bestS D s w (w * hg) o mx (k + 1) = stB D s w (w * hg) o mx a (b + 1) := by
  have lo : loN a b = a := by unfold loN; rw [if_pos hab]
  have hi : hiN a b = b := by unfold hiN; rw [if_pos hab]
  have al := nbAl_iff (w := w) (a := a) (b := b) hw
  rw [lo, hi] at al
  by_cases e : b = a + w
  · refine ⟨2 * a + 1, by omega, by omega, ?_, ?_, ?_, ?_⟩
    · rw [beyN_odd, if_pos (by omega), e]
    · unfold spN
      rw [lo, if_pos (by omega), if_pos (al.mpr e), show (2 * a + 1) / 2 = a by omega]
    · unfold stB
      by_cases w1 : w = 1
      · rw [if_pos (by omega)]
        refine bestS_skip (Or.inl ?_)
        rw [beyN_even, if_neg (fun z => z.1 (by rw [w1]; exact Nat.mod_one _))]
      · rw [if_neg (by omega), if_pos (by omega)]
    · unfold stB
      rw [if_neg (by omega), if_neg (by omega)]
  · have e2 := ((nb_lt hw hab).mp hn).resolve_left e
    have w1 : w ≠ 1 := fun z => e (by rw [z]; exact e2.1)
    refine ⟨2 * a, by omega, by omega, ?_, ?_, ?_, ?_⟩
    · rw [beyN_even, if_pos ⟨fun z => (mod_one hw).mp z e2.2, by omega⟩, e2.1]
    · unfold spN
      rw [lo, if_neg (by omega), if_neg (fun z => e (al.mp z)), show 2 * a / 2 = a by omega]
    · unfold stB
      rw [if_pos (by omega)]
    · unfold stB
      rw [if_neg (by omega), if_pos (by omega)]
theorem stB_end {D : (Nat → Int32) → Int32} {s : Nat → Int32} {w hg o : Nat} {mx : Int32} {a : Nat} (hw : 1 ≤ w) (ha : a < w * hg) : stB D s w (w * hg) o mx a (w * hg) = bestS D s w (w * hg) o mx (2 * (a + 1)) := by
  have e1 : w * hg ≤ a + w → bestS D s w (w * hg) o mx (2 * a + 2) = bestS D s w (w * hg) o mx (2 * a + 1) := fun q => bestS_skip (k := 2 * a + 1) (Or.inl (by rw [beyN_odd, if_neg (by omega)]))
  have e0 : w * hg ≤ a + 1 → bestS D s w (w * hg) o mx (2 * a + 1) = bestS D s w (w * hg) o mx (2 * a) := fun q => bestS_skip (k := 2 * a) (Or.inl (by
    rw [beyN_even, if_neg (fun z => z.1 (by rw [show a + 1 = w * hg by omega]; exact Nat.mul_mod_right _ _))]))
  unfold stB
  rw [show 2 * (a + 1) = 2 * a + 2 by omega]
  by_cases p : w * hg ≤ a + 1
  · rw [if_pos p, e1 (by omega), e0 p]
  · rw [if_neg p]
    by_cases q : w * hg ≤ a + w
    · rw [if_pos q, e1 q]
    · rw [if_neg q]
theorem v_best {M : xMem} {h d w hg f nw nd R o : Nat} {a0 a1 a2 mx : Int32} {D : (Nat → Int32) → Int32} {post : Int32 → xMem → Prop} (hR : Rel M h d w hg f nw nd) (hB : kdB a0 h R o mx) (hp : inN a1 2) (hD : ∀ N, Rel N h d w hg f nw nd → N.1 87 = M.1 87 → N.1 88 = M.1 88 → dayS a1 N h nw 12 = D (N.1 83)) (hN : ∀ k, k < 96 → cdB (M.1 83) w (w * hg) o mx k → ∃ N, Rel N h d w hg f nw nd ∧ N.1 87 = M.1 87 ∧ N.1 88 = M.1 88 ∧ N.1 83 = up1 (M.1 83) (spN o k)) {M0 : xMem} (h0 : ∀ j, j ≠ 81 → j ≠ 89 → M0.1 j = M.1 j) (h81 : ∀ k, k ≠ 0 → k ≠ 25 → k ≠ 26 → M0.1 81 k = M.1 81 k) (h2 : M0.2 = M.2) (hK : ∀ M', (∀ j, j ≠ 81 → j ≠ 89 → M'.1 j = M.1 j) → (∀ k, k ≠ 0 → k ≠ 25 → k ≠ 26 → M'.1 81 k = M.1 81 k) → M'.2 = M.2 → post (bestA a2 (bestS D (M.1 83) w (w * hg) o mx 96)) M') : xlp7 (b_X9_best_42 post) M0 a0 a1 a2 (D (M.1 83)) (-9) 0 := by
  obtain ⟨r1, r2, r3, r4, r5, r6, r7, r8, r9, r10, r11, r12, r13⟩ := id hR
  have hb := (rB_bounds r3).2
  have hw := r3.1.1
  have ho : o ≤ 96 := by rcases hB with q | q <;> omega
  refine xlp7_of (I := fun M' p1 p2 p3 p4 p5 q => p1 = a0 ∧ p2 = a1 ∧ p3 = a2 ∧ ∃ a, a ≤ w * hg ∧ q = nI a ∧ (p4, p5) = bestS D (M.1 83) w (w * hg) o mx (2 * a) ∧ (∀ j, j ≠ 81 → j ≠ 89 → M'.1 j = M.1 j) ∧ (∀ k, k ≠ 0 → k ≠ 25 → k ≠ 26 → M'.1 81 k = M.1 81 k) ∧ M'.2 = M.2) (mu := fun _ _ _ _ _ _ q => w * hg - q.toNatClampNeg) ?_ ⟨rfl, rfl, rfl, 0, Nat.zero_le _, rfl, rfl, h0, h81, h2⟩
  intro r M' p1 p2 p3 p4 p5 q hI hr
  obtain ⟨rfl, rfl, rfl, a, ha, rfl, es, g1, g2, g3⟩ := hI
  unfold b_X9_best_42
  rw [show M'.1 81 9 * M'.1 81 10 = nI (w * hg) by rw [g2 9 (by omega) (by omega) (by omega), g2 10 (by omega) (by omega) (by omega), r4.1, r4.2.1, pk_mul]]
  refine ⟨fun q => ?_, fun q => ?_⟩
  · have e : a = w * hg := Nat.le_antisymm ha ((nI_cond (by omega) (by omega)).mp q)
    have aa := hK M' g1 g2 g3
    have e96 := bestS_end (D := D) (s := M.1 83) (w := w) (n := w * hg) (o := o) (mx := mx) (96 - 2 * (w * hg))
    rw [show 2 * (w * hg) + (96 - 2 * (w * hg)) = 96 by omega] at e96
    rw [show 2 * a = 2 * (w * hg) from by rw [e]] at es
    rw [e96, ← es] at aa
    unfold bestA at aa
    unfold b_X9_best_235
    refine ⟨fun z9 => ?_, fun n9 => ⟨fun n0 => ?_, fun y0 => ?_⟩⟩
    · rw [if_pos z9] at aa
      exact aa
    · rw [if_neg n9, if_neg n0] at aa
      exact aa
    · rw [if_neg n9, if_pos y0] at aa
      exact aa
  · have hla : a < w * hg := Nat.lt_of_not_le (fun q2 => q ((nI_cond (by omega) (by omega)).mpr q2))
    rw [nI_1]
    refine xlp8_of (I := fun M' b1 b2 b3 p4 p5 b6 q => b1 = p1 ∧ b2 = p2 ∧ b3 = p3 ∧ b6 = nI a ∧ ∃ b, a < b ∧ b ≤ w * hg ∧ q = nI b ∧ (p4, p5) = stB D (M.1 83) w (w * hg) o mx a b ∧ (∀ j, j ≠ 81 → j ≠ 89 → M'.1 j = M.1 j) ∧ (∀ k, k ≠ 0 → k ≠ 25 → k ≠ 26 → M'.1 81 k = M.1 81 k) ∧ M'.2 = M.2) (mu := fun _ _ _ _ _ _ _ q => w * hg - q.toNatClampNeg) ?_ ⟨rfl, rfl, rfl, rfl, a + 1, by omega, hla, rfl, by unfold stB; rw [if_pos (by omega)]; exact es, g1, g2, g3⟩
    intro r2 M2 b1 b2 b3 p4 p5 b6 q hI hr2
    obtain ⟨rfl, rfl, rfl, rfl, b, hab, hbn, rfl, es, g1, g2, g3⟩ := hI
    have n9 : M2.1 81 9 = nI w := (g2 9 (by omega) (by omega) (by omega)).trans r4.1
    unfold b_X9_best_62
    rw [show M2.1 81 9 * M2.1 81 10 = nI (w * hg) by rw [n9, g2 10 (by omega) (by omega) (by omega), r4.2.1, pk_mul]]
    refine ⟨fun q => ?_, fun q => ?_⟩
    · have e : b = w * hg := Nat.le_antisymm hbn ((nI_cond (by omega) (by omega)).mp q)
      rw [nI_1]
      refine hr _ _ _ _ _ _ _ ⟨rfl, rfl, rfl, a + 1, hla, rfl, ?_, g1, g2, g3⟩ ?_
      · rw [es, e, stB_end hw hla]
      · show w * hg - (nI (a + 1)).toNatClampNeg < w * hg - (nI a).toNatClampNeg
        rw [nI_clamp (by omega), nI_clamp (by omega)]
        omega
    · have hlb : b < w * hg := Nat.lt_of_not_le (fun q2 => q ((nI_cond (by omega) (by omega)).mpr q2))
      have nx : ∀ M3 p4' p5', (p4', p5') = stB D (M.1 83) w (w * hg) o mx a (b + 1) → (∀ j, j ≠ 81 → j ≠ 89 → M3.1 j = M.1 j) → (∀ k, k ≠ 0 → k ≠ 25 → k ≠ 26 → M3.1 81 k = M.1 81 k) → M3.2 = M.2 → b_X9_best_212 post r r2 M3 b1 b2 b3 p4' p5' (nI a) (nI b) := fun M3 p4' p5' e x1 x2 x3 => by
        unfold b_X9_best_212
        rw [nI_1]
        refine hr2 _ _ _ _ _ _ _ _ ⟨rfl, rfl, rfl, rfl, b + 1, by omega, hlb, rfl, e, x1, x2, x3⟩ ?_
        show w * hg - (nI (b + 1)).toNatClampNeg < w * hg - (nI b).toNatClampNeg
        rw [nI_clamp (by omega), nI_clamp (by omega)]
        omega
      rw [n9]
      refine v_areBeside hw r3.1.2 (by omega) (by omega) (fun hE => ?_) (fun hE => z_t ?_)
      · obtain ⟨k, k1, k2, k3, k4, k5, k6⟩ := stB_yes (D := D) (s := M.1 83) (o := o) (mx := mx) hw hab hlb hE
        have hk96 : k < 96 := by omega
        obtain ⟨sp1, sp2⟩ := spN_lt (o := o) hk96
        have n83 : M2.1 83 = M.1 83 := g1 83 (by omega) (by omega)
        have bn : beyN w (w * hg) k ≠ 0 := by omega
        have c142 : b_X9_best_142 post r r2 M2 b1 b2 b3 p4 p5 (nI a) (nI b) (nI (spN o k)) (M.1 83 (spN o k)) mx := by
          unfold b_X9_best_142
          refine ⟨fun le => ?_, fun nle => ⟨vp_in_nI (by omega) (by omega), fun M3 e3 => ?_⟩⟩
          · refine nx M2 _ _ ?_ g1 g2 g3
            rw [es, ← k5, ← k6, bestS_skip (Or.inr (Or.inl (Int32.not_lt.mpr le)))]
          · have lt : M.1 83 (spN o k) < mx := Int32.not_le.mp nle
            obtain ⟨N, relN, m87, m88, m83⟩ := hN k hk96 ⟨bn, lt⟩
            rw [nI_clamp (by omega)] at e3
            have e3' : M3 = xset M2 83 (spN o k) (M2.1 83 (spN o k) + 1) := e3
            rw [n83] at e3'
            have t83 : M3.1 83 = up1 (M.1 83) (spN o k) := by rw [e3', m_upd, n83]; rfl
            have t : ∀ j, j ≠ 83 → M3.1 j = M2.1 j := fun j hj => by rw [e3', m_row _ _ _ hj]
            have r4N := relN.2.2.2.1
            refine v_day2 relN hp (t83.trans m83.symm) ((t 87 (by omega)).trans ((g1 87 (by omega) (by omega)).trans m87.symm)) ((t 88 (by omega)).trans ((g1 88 (by omega) (by omega)).trans m88.symm)) (fun c hc => ?_) (fun M5 c1 c2 c3 => ?_)
            · rw [t 81 (by omega), g2 c (by omega) (by omega) (by omega)]
              rcases hc with rfl | rfl | rfl | rfl | rfl
              · exact r4.1.trans r4N.1.symm
              · exact r4.2.1.trans r4N.2.1.symm
              · exact r4.2.2.1.trans r4N.2.2.1.symm
              · exact r4.2.2.2.1.trans r4N.2.2.2.1.symm
              · exact r4.2.2.2.2.1.trans r4N.2.2.2.2.1.symm
            · rw [hD N relN m87 m88, m83]
              intro M6 e6
              rw [nI_clamp (by omega)] at e6
              have e6' : M6 = xset M5 83 (spN o k) (M5.1 83 (spN o k) - 1) := e6
              have u83 : M5.1 83 = up1 (M.1 83) (spN o k) := (c1 83 (by omega) (by omega)).trans t83
              have s83 : M6.1 83 = M.1 83 := by
                rw [e6', m_upd, u83]
                exact up1_back
              have s1 : ∀ j, j ≠ 81 → j ≠ 89 → M6.1 j = M.1 j := fun j x y => by
                by_cases e : j = 83
                · rw [e]
                  exact s83
                · rw [e6', m_row _ _ _ e, c1 j x y, t j e]
                  exact g1 j x y
              have s2 : ∀ c, c ≠ 0 → c ≠ 25 → c ≠ 26 → M6.1 81 c = M.1 81 c := fun c x y z => by
                rw [e6', m_row _ _ _ (by omega), c2 c y z, t 81 (by omega)]
                exact g2 c x y z
              have s3 : M6.2 = M.2 := by rw [e6', m_snd, c3, e3', m_snd, g3]
              unfold b_X9_best_194 b_X9_best_210
              refine ⟨fun le => ⟨fun _ => nx M6 _ _ ?_ s1 s2 s3, fun n => absurd le n⟩, fun nle => ⟨fun le => absurd le nle, fun _ => nx M6 _ _ ?_ s1 s2 s3⟩⟩
              · rw [es, ← k5, ← k6, bestS_skip (Or.inr (Or.inr ?_))]
                rw [k5, ← es]
                exact le
              · rw [← k6, bestS_take bn lt (by rw [k5, ← es]; exact nle), k2, k3, show (100 : Int32) = nI 100 from rfl, pk_mul, nI_add]
        have c108 : ∀ o' : Int32, o' = nI o → b_X9_best_108 post r r2 M2 b1 b2 b3 p4 p5 (nI a) (nI b) (nI a) (nI b) (M2.1 81 9) o' := fun o' eo => by
          unfold b_X9_best_108
          rw [n9, eo]
          refine v_spotOf hw r3.1.2 (by omega) (by omega) hE ?_
          rw [← k4]
          unfold b_X9_best_116
          refine ⟨fun z => absurd z (nI_n9 (by omega)), fun _ => ⟨vp_in_nI (by omega) (by omega), ?_⟩⟩
          rw [nI_clamp (by omega), show M2.1 (81 + 2) = M.1 83 from n83]
          rcases hB with ⟨z, -, -, e⟩ | ⟨z, -, -, e⟩
          · rw [e] at c142
            exact ⟨fun q => absurd z q, fun _ => c142⟩
          · rw [e] at c142
            exact ⟨fun _ => c142, fun q => absurd q z⟩
        refine ⟨fun z => absurd z (by decide), fun _ => ?_⟩
        rcases hB with ⟨z, -, zo, -⟩ | ⟨z, -, zo, -⟩
        · exact ⟨fun q => absurd z q, fun _ => c108 0 (by rw [zo]; rfl)⟩
        · exact ⟨fun _ => c108 96 (by rw [zo]; rfl), fun q => absurd q z⟩
      · unfold b_X9_best_116
        refine ⟨fun _ => nx M2 _ _ (es.trans (stB_no hw hab hE).symm) g1 g2 g3, fun q => absurd rfl q⟩
theorem P_best {M : xMem} (hR : RelE M) (a0 : Int32) (a1 : Int32) (a2 : Int32) {K : Int32 → xMem → Prop} (hK : ∀ r M1, (∀ K2 : Int32 → xMem → Prop, (∀ M2, RelE M2 → K2 r M2) → w_X9_best M1 a0 a1 a2 K2) → K r M1) : w_X8_best M a0 a1 a2 K := by
  obtain ⟨h, d, w, hg, f, nw, nd, hR⟩ := hR
  obtain ⟨hh, e5, hk⟩ := Rel_h hR
  have hthrE : RelE (xset M 81 0 0) := ⟨h, d, w, hg, f, nw, nd, Rel_thr hR⟩
  unfold w_X8_best
  refine u_isBit (fun i0 => z_f ?_) (fun i0 => z_t (hK _ _ (fun K2 h2 => ?_)))
  · refine u_isBit (fun i1 => z_f ?_) (fun i1 => z_t (hK _ _ (fun K2 h2 => ?_)))
    · refine u_isBit (fun i2 => z_nf ?_) (fun i2 => z_nt (hK _ _ (fun K2 h2 => ?_)))
      · obtain ⟨D, hD⟩ := day_fun a1 h d w hg f nw nd (M.1 87) (M.1 88)
        have kh1 : kd (h + 1) = 0 := by rcases hh with rfl | rfl <;> decide
        have go : ∀ R o mx, kdB a0 h R o mx → w_X4_wholeDay M ((M.1 0 5).toNatClampNeg) a1 (fun z13 M14 => xlp8 (b_X8_best_57 K) M14 a0 a1 a2 R z13 (-9 : Int32) (0 : Int32)) := fun R o mx hB => by
          rw [e5]
          refine u_day hR (fun _ _ => rfl) rfl (fun M' c1 c2 => ?_)
          rw [hD M hR rfl rfl]
          refine u_best hR hB hD ⟨c1, c2⟩ (fun M3 rel3 t t2 hN => hK _ _ (fun K2 h2 => ?_))
          have t83 := t 83 (by omega) (by omega) (by omega) (by omega)
          have t87 := t 87 (by omega) (by omega) (by omega) (by omega)
          have t88 := t 88 (by omega) (by omega) (by omega) (by omega)
          unfold w_X9_best
          intro M1 e1
          refine v_isBit (fun _ => z_f ?_) (fun q => absurd i0 q)
          refine v_isBit (fun _ => z_f ?_) (fun q => absurd i1 q)
          refine v_isBit (fun _ => z_nf ?_) (fun q => absurd i2 q)
          have m : ∀ j, j ≠ 81 → M1.1 j = M3.1 j := fun j hj => by rw [e1, m_row _ _ _ hj]
          have m81 : ∀ k, k ≠ 0 → M1.1 81 k = M3.1 81 k := fun k hk => by rw [e1, m_col _ _ _ hk]
          refine v_day2 rel3 i1 (m 83 (by omega)) (m 87 (by omega)) (m 88 (by omega)) (fun c hc => m81 c (by omega)) (fun M12 c1 c2 c3 => ?_)
          rw [hD M3 rel3 t87 t88]
          refine v_best (M := M3) rel3 hB i1 (fun N a b c => hD N a (b.trans t87) (c.trans t88)) (fun k k1 k2 => ?_) (fun j x y => (c1 j x y).trans (m j x)) (fun c x y z => (c2 c y z).trans (m81 c x)) (by rw [c3, e1, m_snd]) (fun M' f1 f2 f3 => ?_)
          · rw [t83] at k2 ⊢
            rw [t87, t88]
            exact hN k k1 k2
          · rw [t83]
            refine h2 M' ⟨h, d, w, hg, f, nw, nd, Rel_same rel3 ⟨fun i k q => ?_, f3⟩⟩
            by_cases e : i = 81
            · subst e
              exact f2 k (fun e => q (by unfold scr; omega)) (fun e => q (by unfold scr; omega)) (fun e => q (by unfold scr; omega))
            · exact congrFun (f1 i e (fun e => q (by unfold scr; omega))) k
        rw [e5]
        refine ⟨hk, ?_⟩
        unfold w_X0_rowOf
        exact ⟨kh1, fun z => go (h + 3) 96 9 (Or.inr ⟨z, rfl, rfl, rfl⟩), fun z => go (h + 2) 0 3 (Or.inl ⟨z, rfl, rfl, rfl⟩)⟩
      · unfold w_X9_best
        intro M1 e1
        subst e1
        refine v_isBit (fun _ => z_f ?_) (fun q => absurd i0 q)
        refine v_isBit (fun _ => z_f ?_) (fun q => absurd i1 q)
        exact v_isBit (fun q => absurd q i2) (fun _ => z_nt (h2 _ hthrE))
    · unfold w_X9_best
      intro M1 e1
      subst e1
      refine v_isBit (fun _ => z_f ?_) (fun q => absurd i0 q)
      exact v_isBit (fun q => absurd q i1) (fun _ => z_t (h2 _ hthrE))
  · unfold w_X9_best
    intro M1 e1
    subst e1
    exact v_isBit (fun q => absurd q i0) (fun _ => z_t (h2 _ hthrE))
