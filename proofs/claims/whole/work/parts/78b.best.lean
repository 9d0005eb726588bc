/-! best -/
/-- the yard beyond a border of a hill of n yards, w wide; 0: there is none -/
def beyN (w n k : Nat) : Nat := if k % 2 = 0 then (if (k / 2 + 1) % w ≠ 0 ∧ k / 2 < n then k / 2 + 1 else 0) else (if k / 2 + w < n then k / 2 + w else 0)
theorem u_beyond {M : xMem} {h w hg k : Nat} {post : Int32 → xMem → Prop} (hk : kd h = 2) (e0 : M.1 h 0 = nI w) (e1 : M.1 h 1 = nI hg) (hw : 1 ≤ w) (hn : w * hg ≤ 48) (hk96 : k < 96) (h1 : beyN w (w * hg) k ≠ 0 → post (nI (beyN w (w * hg) k)) M) (h0 : beyN w (w * hg) k = 0 → post (-9) M) : w_X2_beyond M h (nI k) post := by
  by_cases hkn : k / 2 < w * hg
  · by_cases p : k % 2 = 0
    · have e : k = 2 * (k / 2) := by omega
      rw [e]
      unfold beyN at h1 h0
      rw [if_pos p] at h1 h0
      refine u_bey0 hk e0 e1 hw hn hkn (fun a => ?_) (fun a => ?_)
      · rw [if_pos ⟨a, hkn⟩] at h1
        exact h1 (by omega)
      · rw [if_neg (fun z => z.1 a)] at h0
        exact h0 rfl
    · have e : k = 2 * (k / 2) + 1 := by omega
      rw [e]
      unfold beyN at h1 h0
      rw [if_neg p] at h1 h0
      refine u_bey1 hk e0 e1 hw hn hkn (fun a => ?_) (fun a => ?_)
      · rw [if_pos a] at h1
        exact h1 (by omega)
      · rw [if_neg a] at h0
        exact h0 rfl
  · have z : beyN w (w * hg) k = 0 := by
      unfold beyN
      by_cases p : k % 2 = 0
      · rw [if_pos p, if_neg (fun z => hkn z.2)]
      · rw [if_neg p, if_neg (by omega)]
    have d2 : nI k / (2 : Int32) = nI (k / 2) := by
      rw [show (2 : Int32) = nI 2 from rfl, pk_div (by omega) (by omega) (by omega)]
    unfold w_X2_beyond
    rw [d2]
    refine ⟨hk, fun q => absurd q (nI_pos (by omega)), fun _ => ?_⟩
    refine u_isYard hk e0 e1 (by omega) (fun a => ?_) (fun a => z_t (h0 z))
    obtain ⟨j, j1, j2⟩ := a
    have := q_inj (a := k / 2) (b := j) (by omega) (by omega) j2
    omega
/-- where the reference keeps it -/
def spN (o k : Nat) : Nat := o + (k / 2 + if k % 2 = 1 then 48 else 0)
theorem spN_lt {o k : Nat} (hk : k < 96) : o ≤ spN o k ∧ spN o k < o + 96 := by
  unfold spN
  split <;> omega
def cdB (s : Nat → Int32) (w n o : Nat) (mx : Int32) (k : Nat) : Prop := beyN w n k ≠ 0 ∧ s (spN o k) < mx
def up1 (s : Nat → Int32) (k : Nat) : Nat → Int32 := upd s k (s k + 1)
theorem up1_back {s : Nat → Int32} {k : Nat} : upd (up1 s k) k (up1 s k k - 1) = s := by
  funext j
  unfold up1
  by_cases e : j = k
  · subst e
    rw [pk_us, pk_us, Int32.add_sub_cancel]
  · rw [pk_un e, pk_un e]
noncomputable def bestS (D : (Nat → Int32) → Int32) (s : Nat → Int32) (w n o : Nat) (mx : Int32) : Nat → Int32 × Int32
  | 0 => (D s, -9)
  | k + 1 => if beyN w n k = 0 ∨ ¬ s (spN o k) < mx ∨ D (up1 s (spN o k)) ≤ (bestS D s w n o mx k).1 then bestS D s w n o mx k else (D (up1 s (spN o k)), nI (100 * (k / 2) + beyN w n k))
theorem bestS_skip {D : (Nat → Int32) → Int32} {s : Nat → Int32} {w n o : Nat} {mx : Int32} {k : Nat} (h : beyN w n k = 0 ∨ ¬ s (spN o k) < mx ∨ D (up1 s (spN o k)) ≤ (bestS D s w n o mx k).1) : bestS D s w n o mx (k + 1) = bestS D s w n o mx k := by
  show (if _ then _ else _) = _
  rw [if_pos h]
theorem bestS_take {D : (Nat → Int32) → Int32} {s : Nat → Int32} {w n o : Nat} {mx : Int32} {k : Nat} (h1 : beyN w n k ≠ 0) (h2 : s (spN o k) < mx) (h3 : ¬ D (up1 s (spN o k)) ≤ (bestS D s w n o mx k).1) : bestS D s w n o mx (k + 1) = (D (up1 s (spN o k)), nI (100 * (k / 2) + beyN w n k)) := by
  show (if _ then _ else _) = _
  rw [if_neg (fun z => z.elim h1 (fun z => z.elim (fun z => z h2) h3))]
theorem bestS_end {D : (Nat → Int32) → Int32} {s : Nat → Int32} {w n o : Nat} {mx : Int32} : ∀ m, bestS D s w n o mx (2 * n + m) = bestS D s w n o mx (2 * n)
  | 0 => rfl
  | m + 1 => by
    rw [show 2 * n + (m + 1) = 2 * n + m + 1 by omega, bestS_skip, bestS_end m]
    refine Or.inl ?_
    unfold beyN
    split
    · rw [if_neg (by omega)]
    · rw [if_neg (by omega)]
def bestA (p3 : Int32) (x : Int32 × Int32) : Int32 := if x.2 = -9 then x.2 else if p3 = 0 then x.2 else x.1
theorem rG_k {wl ft : Nat → Int32} {gr gd : Int32} {s : Nat → Int32} (hG : rG wl ft gr gd s) {k : Nat} (hk : k < 96) : wl k = s (spN 0 k) ∧ ft k = s (spN 96 k) := by
  have := rG_at (k := k / 2) (al := decide (k % 2 = 1)) hG (by omega)
  unfold spN
  by_cases p : k % 2 = 1
  · rw [decide_eq_true p, if_pos rfl, if_pos rfl, show 2 * (k / 2) + 1 = k by omega] at this
    rw [if_pos p, Nat.zero_add]
    exact this
  · rw [decide_eq_false p, if_neg (by decide), if_neg (by decide), show 2 * (k / 2) + 0 = k by omega] at this
    rw [if_neg p, Nat.zero_add]
    exact this
theorem rG_u0 {wl ft : Nat → Int32} {gr gd : Int32} {s : Nat → Int32} {v : Int32} (hG : rG wl ft gr gd s) {k : Nat} (hk : k < 96) : rG (upd wl k v) ft gr gd (upd s (spN 0 k) v) := by
  have := rG_upd0 (k := k / 2) (v := v) (decide (k % 2 = 1)) (by omega) hG
  unfold spN
  by_cases p : k % 2 = 1
  · rw [decide_eq_true p, if_pos rfl, if_pos rfl, show 2 * (k / 2) + 1 = k by omega] at this
    rw [if_pos p, Nat.zero_add]
    exact this
  · rw [decide_eq_false p, if_neg (by decide), if_neg (by decide), show 2 * (k / 2) + 0 = k by omega] at this
    rw [if_neg p, Nat.zero_add]
    exact this
theorem rG_u1 {wl ft : Nat → Int32} {gr gd : Int32} {s : Nat → Int32} {v : Int32} (hG : rG wl ft gr gd s) {k : Nat} (hk : k < 96) : rG wl (upd ft k v) gr gd (upd s (spN 96 k) v) := by
  have := rG_upd1 (k := k / 2) (v := v) (decide (k % 2 = 1)) (by omega) hG
  unfold spN
  by_cases p : k % 2 = 1
  · rw [decide_eq_true p, if_pos rfl, if_pos rfl, show 2 * (k / 2) + 1 = k by omega] at this
    rw [if_pos p]
    exact this
  · rw [decide_eq_false p, if_neg (by decide), if_neg (by decide), show 2 * (k / 2) + 0 = k by omega] at this
    rw [if_neg p]
    exact this
/-- the kind's row in the class, its place in the reference, its most -/
def kdB (p1 : Int32) (h R o : Nat) (mx : Int32) : Prop := (p1 = 0 ∧ R = h + 2 ∧ o = 0 ∧ mx = 3) ∨ (¬ p1 = 0 ∧ R = h + 3 ∧ o = 96 ∧ mx = 9)
theorem up_in {x : Int32} {m : Nat} (h : inN x (m + 1)) (hm : m < 100) (hl : x < nI m) : inN (x + 1) (m + 1) := by
  obtain ⟨k, k1, rfl⟩ := h
  have := (nI_ltI (by omega) (by omega)).mp hl
  exact ⟨k + 1, by omega, nI_1 k⟩
theorem rS_up1 {s : Nat → Int32} {p1 : Int32} {h R o k : Nat} {mx : Int32} (hS : rS s) (hB : kdB p1 h R o mx) (hk : k < 96) (hl : s (spN o k) < mx) : rS (up1 s (spN o k)) := by
  obtain ⟨a, b⟩ := spN_lt (o := o) hk
  refine rS_upd hS ?_
  rcases hB with ⟨-, -, rfl, rfl⟩ | ⟨-, -, rfl, rfl⟩
  · exact Or.inl ⟨by omega, up_in (m := 3) (hS.1 _ (by omega)) (by omega) hl⟩
  · have := hS.2.1 (spN 96 k - 96) (by omega)
    rw [show 96 + (spN 96 k - 96) = spN 96 k by omega] at this
    exact Or.inr ⟨by omega, up_in (m := 9) this (by omega) hl⟩
/-- the class: all borders -/
theorem u_best {M : xMem} {h d w hg f nw nd R o : Nat} {a0 a1 a2 mx : Int32} {D : (Nat → Int32) → Int32} {post : Int32 → xMem → Prop} (hR : Rel M h d w hg f nw nd) (hB : kdB a0 h R o mx) (hD : ∀ N, Rel N h d w hg f nw nd → N.1 87 = M.1 87 → N.1 88 = M.1 88 → dayS a1 N h nw 12 = D (N.1 83)) {M0 : xMem} (hM0 : (∀ j, j ≠ 14 → M0.1 j = M.1 j) ∧ M0.2 = M.2) (hK : ∀ M', Rel M' h d w hg f nw nd → (∀ j, j ≠ 14 → (j < 7 ∨ 13 ≤ j) → j ≠ 15 → j ≠ 16 → M'.1 j = M.1 j) → M'.2 = M.2 → (∀ k, k < 96 → cdB (M.1 83) w (w * hg) o mx k → ∃ N, Rel N h d w hg f nw nd ∧ N.1 87 = M.1 87 ∧ N.1 88 = M.1 88 ∧ N.1 83 = up1 (M.1 83) (spN o k)) → post (bestA a2 (bestS D (M.1 83) w (w * hg) o mx 96)) M') : xlp8 (b_X8_best_57 post) M0 a0 a1 a2 R (D (M.1 83)) (-9) 0 := by
  obtain ⟨hh, e5, hk⟩ := Rel_h hR
  obtain ⟨r1, r2, r3, r4, r5, r6, r7, r8, r9, r10, r11, r12, r13⟩ := id hR
  have hb := (rB_bounds r3).2
  have hRr : (R = h + 2 ∨ R = h + 3) ∧ o ≤ 96 := by rcases hB with q | q <;> omega
  have kR : kd R = 10 ∧ ln R = 96 := by
    rcases hRr.1 with rfl | rfl <;> rcases hh with rfl | rfl <;> decide
  have hmx : ∀ M' (post : Int32 → xMem → Prop), post mx M' → w_X8_mostOf M' a0 post := fun M' post hp => by
    unfold w_X8_mostOf
    rcases hB with ⟨z, -, -, e⟩ | ⟨z, -, -, e⟩
    · rw [e] at hp
      exact ⟨fun q => absurd z q, fun _ => hp⟩
    · rw [e] at hp
      exact ⟨fun _ => hp, fun q => absurd q z⟩
  have cell : ∀ k, k < 96 → M.1 R k = M.1 83 (spN o k) := fun k hk => by
    rcases hB with ⟨-, rfl, rfl, -⟩ | ⟨-, rfl, rfl, -⟩
    · exact (rG_k r8 hk).1
    · exact (rG_k r8 hk).2
  refine xlp8_of (I := fun M' p1 p2 p3 p4 p5 p6 q => p1 = a0 ∧ p2 = a1 ∧ p3 = a2 ∧ p4 = R ∧ ∃ k, k ≤ 96 ∧ q = nI k ∧ (p5, p6) = bestS D (M.1 83) w (w * hg) o mx k ∧ (∀ j, j ≠ 14 → (j < 7 ∨ 13 ≤ j) → j ≠ 15 → j ≠ 16 → M'.1 j = M.1 j) ∧ M'.2 = M.2 ∧ M'.1 16 0 = 0 ∧ (∀ k', k' < k → cdB (M.1 83) w (w * hg) o mx k' → ∃ N, Rel N h d w hg f nw nd ∧ N.1 87 = M.1 87 ∧ N.1 88 = M.1 88 ∧ N.1 83 = up1 (M.1 83) (spN o k'))) (mu := fun _ _ _ _ _ _ _ q => 96 - q.toNatClampNeg) ?_ ⟨rfl, rfl, rfl, rfl, 0, Nat.zero_le _, rfl, rfl, fun j p _ _ _ => hM0.1 j p, hM0.2, by rw [hM0.1 16 (by omega)]; exact r2.2.2.1, fun k' hk' => absurd hk' (Nat.not_lt_zero _)⟩
  intro r M' p1 p2 p3 p4 p5 p6 q hI hr
  obtain ⟨rfl, rfl, rfl, rfl, k, hk96, rfl, es, g1, g2, g3, g4⟩ := hI
  have g05 : (M'.1 0 5).toNatClampNeg = h := by rw [g1 0 (by omega) (by omega) (by omega) (by omega)]; exact e5
  unfold b_X8_best_57
  refine ⟨fun q => ?_, fun q => ?_⟩
  · have e : k = 96 := Nat.le_antisymm hk96 ((li_le (n := 96) (by omega) (by decide)).mp q)
    subst e
    refine u_listen (w := w) (hg := hg) (f := f) (nw := nw) (nd := nd) (s := M.1 83) (wk := M.1 87) (dd := M.1 88) hh (by rw [g1 0 (by omega) (by omega) (by omega) (by omega)]; exact r2.1) r3 r6.1 r6.2.1 r6.2.2 (by rw [g1 5 (by omega) (by omega) (by omega) (by omega)]; exact r4.2.2.2.2.2) (rX_cong2 r3.2.2.2.1 r3.2.2.2.2 (fun i hi a b c => g1 _ (by omega) (by omega) (by omega) (by omega)) r7) (by rw [g1 (h + 2) (by omega) (by omega) (by omega) (by omega), g1 (h + 3) (by omega) (by omega) (by omega) (by omega), g1 (h + 1) (by omega) (by omega) (by omega) (by omega)]; exact r8) g3 (fun M2 b1 b2 b3 b4 b5 => ?_)
    have t : ∀ j, j ≠ 14 → (j < 7 ∨ 13 ≤ j) → j ≠ 15 → j ≠ 16 → M2.1 j = M.1 j := fun j x1 x2 x3 x4 => (b1 j x2 x3 x4).trans (g1 j x1 x2 x3 x4)
    have t83 := t 83 (by omega) (by omega) (by omega) (by omega)
    have t87 := t 87 (by omega) (by omega) (by omega) (by omega)
    have t88 := t 88 (by omega) (by omega) (by omega) (by omega)
    have t81 := t 81 (by omega) (by omega) (by omega) (by omega)
    have rel2 : Rel M2 h d w hg f nw nd := by
      refine Rel_mk hR r3.2.2.1 (by rw [t 5 (by omega) (by omega) (by omega) (by omega)]; exact r4.2.2.2.2.2) (by rw [t81]; exact r4.2.2.1) (fun c _ => by rw [t81]) (fun i hi => t i (by omega) (by omega) (by omega) (by omega)) b3 (by rw [t83]; exact r6.1) (by rw [t83, t (h + 1) (by omega) (by omega) (by omega) (by omega), t (h + 2) (by omega) (by omega) (by omega) (by omega), t (h + 3) (by omega) (by omega) (by omega) (by omega)]; exact r8) (by rw [t83, t 17 (by omega) (by omega) (by omega) (by omega), t 18 (by omega) (by omega) (by omega) (by omega), t 19 (by omega) (by omega) (by omega) (by omega)]; exact r9) (fun i hi => ?_) ?_ ?_
      · rw [t83, t87]
        exact b4 i hi
      · rw [t87, t88]
        exact b5
      · rw [b2, g2]
        exact r13
    have a := hK M2 rel2 t (b2.trans g2) g4
    rw [← es] at a
    unfold bestA at a
    unfold b_X8_best_175
    refine ⟨fun z9 => ?_, fun n9 => ⟨fun n0 => ?_, fun y0 => ?_⟩⟩
    · rw [if_pos z9] at a
      exact a
    · rw [if_neg n9, if_neg n0] at a
      exact a
    · rw [if_neg n9, if_pos y0] at a
      exact a
  · have hl : k < 96 := Nat.lt_of_not_le (fun q2 => q ((li_le (by omega) (by decide)).mpr q2))
    obtain ⟨sp1, sp2⟩ := spN_lt (o := o) hl
    have cdec : cdB (M.1 83) w (w * hg) o mx k → (∃ N, Rel N h d w hg f nw nd ∧ N.1 87 = M.1 87 ∧ N.1 88 = M.1 88 ∧ N.1 83 = up1 (M.1 83) (spN o k)) → ∀ k', k' < k + 1 → cdB (M.1 83) w (w * hg) o mx k' → ∃ N, Rel N h d w hg f nw nd ∧ N.1 87 = M.1 87 ∧ N.1 88 = M.1 88 ∧ N.1 83 = up1 (M.1 83) (spN o k') := fun _ hN k' hk' hc => by
      by_cases e : k' = k
      · rw [e]
        exact hN
      · exact g4 k' (by omega) hc
    have cdec0 : ¬ cdB (M.1 83) w (w * hg) o mx k → ∀ k', k' < k + 1 → cdB (M.1 83) w (w * hg) o mx k' → ∃ N, Rel N h d w hg f nw nd ∧ N.1 87 = M.1 87 ∧ N.1 88 = M.1 88 ∧ N.1 83 = up1 (M.1 83) (spN o k') := fun hn k' hk' hc => by
      by_cases e : k' = k
      · subst e
        exact absurd hc hn
      · exact g4 k' (by omega) hc
    have nx : ∀ M3 p5' p6', (p5', p6') = bestS D (M.1 83) w (w * hg) o mx (k + 1) → (∀ j, j ≠ 14 → (j < 7 ∨ 13 ≤ j) → j ≠ 15 → j ≠ 16 → M3.1 j = M.1 j) → M3.2 = M.2 → M3.1 16 0 = 0 → (∀ k', k' < k + 1 → cdB (M.1 83) w (w * hg) o mx k' → ∃ N, Rel N h d w hg f nw nd ∧ N.1 87 = M.1 87 ∧ N.1 88 = M.1 88 ∧ N.1 83 = up1 (M.1 83) (spN o k')) → b_X8_best_154 post r M3 p1 p2 p3 p4 p5' p6' (nI k) := fun M3 p5' p6' x1 x2 x3 x4 x5 => by
      unfold b_X8_best_154
      rw [nI_1]
      refine hr _ _ _ _ _ _ _ _ ⟨rfl, rfl, rfl, rfl, k + 1, hl, rfl, x1, x2, x3, x4, x5⟩ ?_
      show 96 - (nI (k + 1)).toNatClampNeg < 96 - (nI k).toNatClampNeg
      rw [nI_clamp (by omega), nI_clamp (by omega)]
      omega
    have gh : M'.1 h = M.1 h := g1 h (by omega) (by omega) (by omega) (by omega)
    have gR : M'.1 p4 = M.1 p4 := g1 p4 (by omega) (by omega) (by omega) (by omega)
    rw [g05]
    refine u_beyond hk (by rw [gh]; exact r7.1.1) (by rw [gh]; exact r7.1.2.1) r3.1.1 hb hl (fun bn => ?_) (fun bz => ⟨fun _ => nx M' _ _ (es.trans (bestS_skip (Or.inl bz)).symm) g1 g2 g3 (cdec0 (fun z => z.1 bz)), fun q => absurd (by decide) q⟩)
    have bb : beyN w (w * hg) k < 100 := by
      unfold beyN
      split <;> split <;> omega
    refine ⟨fun q => absurd q (nI_pos (by omega)), fun _ => ⟨kR.1, by rw [kR.2]; exact vp_in_nI hl (by omega), ?_⟩⟩
    rw [nI_clamp (by omega)]
    refine hmx M' _ ⟨fun lt => ?_, fun nlt => ?_⟩
    · rw [gR, cell k hl] at lt
      have hcd : cdB (M.1 83) w (w * hg) o mx k := ⟨bn, lt⟩
      intro M15 e15
      have v15 : M'.1 p4 k + 1 = M.1 83 (spN o k) + 1 := by rw [gR, cell k hl]
      rw [v15] at e15
      have g15 : ∀ j, j ≠ p4 → M15.1 j = M'.1 j := fun j hj => by rw [e15, m_row _ _ _ hj]
      have g15R : M15.1 p4 = upd (M.1 p4) k (M.1 83 (spN o k) + 1) := by rw [e15, m_upd, gR]
      have gg : ∀ j, j ≠ p4 → j ≠ 14 → (j < 7 ∨ 13 ≤ j) → j ≠ 15 → j ≠ 16 → M15.1 j = M.1 j := fun j a b c d e => (g15 j a).trans (g1 j b c d e)
      have hS' := rS_up1 r6.1 hB hl lt
      have hG' : rG (M15.1 (h + 2)) (M15.1 (h + 3)) (M15.1 (h + 1) 2) (M15.1 (h + 1) 3) (up1 (M.1 83) (spN o k)) := by
        rw [gg (h + 1) (by omega) (by omega) (by omega) (by omega) (by omega)]
        rcases hB with ⟨-, rfl, rfl, -⟩ | ⟨-, rfl, rfl, -⟩
        · rw [g15R, gg (h + 3) (by omega) (by omega) (by omega) (by omega) (by omega)]
          exact rG_u0 r8 hl
        · rw [g15R, gg (h + 2) (by omega) (by omega) (by omega) (by omega) (by omega)]
          exact rG_u1 r8 hl
      refine u_listen (w := w) (hg := hg) (f := f) (nw := nw) (nd := nd) (s := up1 (M.1 83) (spN o k)) (wk := M.1 87) (dd := M.1 88) hh (by rw [gg 0 (by omega) (by omega) (by omega) (by omega) (by omega)]; exact r2.1) r3 hS' r6.2.1 r6.2.2 (by rw [gg 5 (by omega) (by omega) (by omega) (by omega) (by omega)]; exact r4.2.2.2.2.2) (rX_cong2 r3.2.2.2.1 r3.2.2.2.2 (fun i hi a b c => gg _ (by omega) (by omega) (by omega) (by omega) (by omega)) r7) hG' (by rw [g15 16 (by omega)]; exact g3) (fun M17 b1 b2 b3 b4 b5 => ?_)
      have t : ∀ j, j ≠ p4 → j ≠ 14 → (j < 7 ∨ 13 ≤ j) → j ≠ 15 → j ≠ 16 → M17.1 j = M.1 j := fun j x0 x1 x2 x3 x4 => (b1 j x2 x3 x4).trans (gg j x0 x1 x2 x3 x4)
      have tR : M17.1 p4 = upd (M.1 p4) k (M.1 83 (spN o k) + 1) := (b1 p4 (by omega) (by omega) (by omega)).trans g15R
      have m2 : M17.2 = M.2 := by rw [b2, e15, m_snd, g2]
      have n : ∀ j, j ≠ 83 → (xrow M17 83 (up1 (M.1 83) (spN o k))).1 j = M17.1 j := fun j hj => m_rrow _ _ hj
      have n83 : (xrow M17 83 (up1 (M.1 83) (spN o k))).1 83 = up1 (M.1 83) (spN o k) := m_rsame _ _ _
      have n87 : (xrow M17 83 (up1 (M.1 83) (spN o k))).1 87 = M.1 87 := (n 87 (by omega)).trans (t 87 (by omega) (by omega) (by omega) (by omega) (by omega))
      have n88 : (xrow M17 83 (up1 (M.1 83) (spN o k))).1 88 = M.1 88 := (n 88 (by omega)).trans (t 88 (by omega) (by omega) (by omega) (by omega) (by omega))
      have n81 : (xrow M17 83 (up1 (M.1 83) (spN o k))).1 81 = M.1 81 := (n 81 (by omega)).trans (t 81 (by omega) (by omega) (by omega) (by omega) (by omega))
      have nn : ∀ j, j ≠ 83 → j ≠ p4 → j ≠ 14 → (j < 7 ∨ 13 ≤ j) → j ≠ 15 → j ≠ 16 → (xrow M17 83 (up1 (M.1 83) (spN o k))).1 j = M.1 j := fun j y x0 x1 x2 x3 x4 => (n j y).trans (t j x0 x1 x2 x3 x4)
      have relN : Rel (xrow M17 83 (up1 (M.1 83) (spN o k))) h d w hg f nw nd := by
        refine Rel_mk hR r3.2.2.1 (by rw [nn 5 (by omega) (by omega) (by omega) (by omega) (by omega) (by omega)]; exact r4.2.2.2.2.2) (by rw [n81]; exact r4.2.2.1) (fun c _ => by rw [n81]) (fun i hi => nn i (by omega) (by omega) (by omega) (by omega) (by omega) (by omega)) (by rw [n 16 (by omega)]; exact b3) (by rw [n83]; exact hS') ?_ ?_ (fun i hi => ?_) ?_ ?_
        · rw [n83, n (h + 1) (by omega), n (h + 2) (by omega), n (h + 3) (by omega), b1 (h + 1) (by omega) (by omega) (by omega), b1 (h + 2) (by omega) (by omega) (by omega), b1 (h + 3) (by omega) (by omega) (by omega)]
          exact hG'
        · rw [n83, nn 17 (by omega) (by omega) (by omega) (by omega) (by omega) (by omega), nn 18 (by omega) (by omega) (by omega) (by omega) (by omega) (by omega), nn 19 (by omega) (by omega) (by omega) (by omega) (by omega) (by omega)]
          refine rH_cong (fun _ _ => rfl) (fun _ _ => rfl) (fun c c1 c2 => ?_) r9
          unfold up1
          rw [pk_un (by omega)]
        · rw [n83, n87, n (7 + i) (by have := r3.2.2.2.1; omega)]
          exact b4 i hi
        · rw [n87, n88, n 15 (by omega)]
          exact rBr_cong r3.2.2.2.1 (fun i hi => n (7 + i) (by omega)) b5
        · rw [m_rsnd, m2]
          exact r13
      have hN : ∃ N, Rel N h d w hg f nw nd ∧ N.1 87 = M.1 87 ∧ N.1 88 = M.1 88 ∧ N.1 83 = up1 (M.1 83) (spN o k) := ⟨_, relN, n87, n88, n83⟩
      rw [show (M17.1 0 5).toNatClampNeg = h by rw [t 0 (by omega) (by omega) (by omega) (by omega) (by omega)]; exact e5]
      refine u_day2 relN (fun j x _ => (n j (by omega)).symm) (fun M19 c1 c2 => ?_)
      rw [hD _ relN n87 n88, n83]
      intro M20 e20
      have v20 : M19.1 p4 = up1 (M.1 p4) k := by
        rw [c1 p4 (by omega), tR]
        unfold up1
        rw [cell k hl]
      have g20R : M20.1 p4 = M.1 p4 := by
        rw [e20, m_upd, v20]
        exact up1_back
      have g20 : ∀ j, j ≠ 14 → (j < 7 ∨ 13 ≤ j) → j ≠ 15 → j ≠ 16 → M20.1 j = M.1 j := fun j x1 x2 x3 x4 => by
        by_cases e : j = p4
        · rw [e]
          exact g20R
        · rw [e20, m_row _ _ _ e, c1 j x1]
          exact t j e x1 x2 x3 x4
      have g202 : M20.2 = M.2 := by rw [e20, m_snd, c2, m2]
      have g2016 : M20.1 16 0 = 0 := by rw [e20, m_row _ _ _ (by omega), c1 16 (by omega)]; exact b3
      refine ⟨fun le => ?_, fun nle v22 e22 => ?_⟩
      · refine nx M20 _ _ (es.trans (bestS_skip (Or.inr (Or.inr ?_))).symm) g20 g202 g2016 (cdec hcd hN)
        rw [← es]
        exact le
      · refine nx M20 _ _ ?_ g20 g202 g2016 (cdec hcd hN)
        rw [bestS_take bn lt (by rw [← es]; exact nle), e22, show (2 : Int32) = nI 2 from rfl, pk_div (by omega) (by omega) (by omega), show (100 : Int32) = nI 100 from rfl, pk_mul, nI_add]
    · rw [gR, cell k hl] at nlt
      exact nx M' _ _ (es.trans (bestS_skip (Or.inr (Or.inl nlt))).symm) g1 g2 g3 (cdec0 (fun z => nlt z.2))
