/-! build -/
theorem rG_upd0 {wl ft : Nat → Int32} {gr gd : Int32} {s : Nat → Int32} {k : Nat} {v : Int32} (al : Bool) (hk : k < 48) (hG : rG wl ft gr gd s) : rG (upd wl (2 * k + if al = true then 1 else 0) v) ft gr gd (upd s (k + if al = true then 48 else 0) v) := by
  obtain ⟨g1, g2, g3, g4⟩ := hG
  have hq : (k + if al = true then 48 else 0) < 96 := by split <;> omega
  refine ⟨fun a ha => ?_, fun a ha => ?_, ?_, ?_⟩
  · obtain ⟨x, y⟩ := g1 a ha
    cases al
    · show upd wl (2 * k) v (2 * a) = upd s k v a ∧ upd wl (2 * k) v (2 * a + 1) = upd s k v (48 + a)
      rw [pk_un (j := 2 * a + 1) (by omega), pk_un (j := 48 + a) (by omega)]
      by_cases e : a = k
      · subst e
        rw [pk_us, pk_us]
        exact ⟨rfl, y⟩
      · rw [pk_un (j := 2 * a) (by omega), pk_un (j := a) (by omega)]
        exact ⟨x, y⟩
    · show upd wl (2 * k + 1) v (2 * a) = upd s (k + 48) v a ∧ upd wl (2 * k + 1) v (2 * a + 1) = upd s (k + 48) v (48 + a)
      rw [pk_un (j := 2 * a) (by omega), pk_un (j := a) (by omega)]
      by_cases e : a = k
      · subst e
        rw [Nat.add_comm a 48, pk_us, pk_us]
        exact ⟨x, rfl⟩
      · rw [pk_un (j := 2 * a + 1) (by omega), pk_un (j := 48 + a) (by omega)]
        exact ⟨x, y⟩
  · rw [pk_un (j := 96 + a) (by omega), pk_un (j := 144 + a) (by omega)]
    exact g2 a ha
  · rw [pk_un (by omega)]
    exact g3
  · rw [pk_un (by omega)]
    exact g4
theorem rG_upd1 {wl ft : Nat → Int32} {gr gd : Int32} {s : Nat → Int32} {k : Nat} {v : Int32} (al : Bool) (hk : k < 48) (hG : rG wl ft gr gd s) : rG wl (upd ft (2 * k + if al = true then 1 else 0) v) gr gd (upd s (96 + (k + if al = true then 48 else 0)) v) := by
  obtain ⟨g1, g2, g3, g4⟩ := hG
  have hq : (k + if al = true then 48 else 0) < 96 := by split <;> omega
  refine ⟨fun a ha => ?_, fun a ha => ?_, ?_, ?_⟩
  · rw [pk_un (j := a) (by omega), pk_un (j := 48 + a) (by omega)]
    exact g1 a ha
  · obtain ⟨x, y⟩ := g2 a ha
    cases al
    · show upd ft (2 * k) v (2 * a) = upd s (96 + k) v (96 + a) ∧ upd ft (2 * k) v (2 * a + 1) = upd s (96 + k) v (144 + a)
      rw [pk_un (j := 2 * a + 1) (by omega), pk_un (j := 144 + a) (by omega)]
      by_cases e : a = k
      · subst e
        rw [pk_us, pk_us]
        exact ⟨rfl, y⟩
      · rw [pk_un (j := 2 * a) (by omega), pk_un (j := 96 + a) (by omega)]
        exact ⟨x, y⟩
    · show upd ft (2 * k + 1) v (2 * a) = upd s (96 + (k + 48)) v (96 + a) ∧ upd ft (2 * k + 1) v (2 * a + 1) = upd s (96 + (k + 48)) v (144 + a)
      rw [pk_un (j := 2 * a) (by omega), pk_un (j := 96 + a) (by omega)]
      by_cases e : a = k
      · subst e
        rw [show 96 + (a + 48) = 144 + a by omega, pk_us, pk_us]
        exact ⟨x, rfl⟩
      · rw [pk_un (j := 2 * a + 1) (by omega), pk_un (j := 144 + a) (by omega)]
        exact ⟨x, y⟩
  · rw [pk_un (by omega)]
    exact g3
  · rw [pk_un (by omega)]
    exact g4
theorem rS_upd {s : Nat → Int32} {k : Nat} {v : Int32} (hS : rS s) (h : k < 96 ∧ inN v 4 ∨ (96 ≤ k ∧ k < 192) ∧ inN v 10) : rS (upd s k v) := by
  obtain ⟨h1, h2, h3, h4⟩ := hS
  refine ⟨fun b hb => ?_, fun b hb => ?_, ?_, ?_⟩
  · by_cases e : b = k
    · subst e
      rw [pk_us]
      rcases h with h | h
      · exact h.2
      · omega
    · rw [pk_un e]
      exact h1 b hb
  · by_cases e : 96 + b = k
    · rw [← e, pk_us]
      rcases h with h | h
      · omega
      · exact h.2
    · rw [pk_un e]
      exact h2 b hb
  · rw [pk_un (by omega)]
    exact h3
  · rw [pk_un (by omega)]
    exact h4
theorem P_build {M : xMem} (hR : RelE M) (a0 : Int32) (a1 : Int32) (a2 : Int32) (a3 : Int32) {K : Int32 → xMem → Prop} (hK : ∀ r M1, (∀ K2 : Int32 → xMem → Prop, (∀ M2, RelE M2 → K2 r M2) → w_X9_build M1 a0 a1 a2 a3 K2) → K r M1) : w_X8_build M a0 a1 a2 a3 K := by
  obtain ⟨h, d, w, hg, f, nw, nd, hR⟩ := hR
  obtain ⟨hh, e5, hk⟩ := Rel_h hR
  obtain ⟨r1, r2, r3, r4, r5, r6, r7, r8, r9, r10, r11, r12, r13⟩ := id hR
  have hb := (rB_bounds r3).2
  have hw := r3.1.1
  have hw2 := r3.1.2
  have hthr : RelE (xset M 81 0 0) := ⟨h, d, w, hg, f, nw, nd, Rel_thr hR⟩
  have e9 : (xset M 81 0 0).1 81 9 = nI w := (m_col _ _ _ (by omega)).trans r4.1
  have e10 : (xset M 81 0 0).1 81 10 = nI hg := (m_col _ _ _ (by omega)).trans r4.2.1
  unfold w_X8_build
  rw [e5]
  refine u_borderOf hk r7.1.1 r7.1.2.1 hw hb (fun a b ha hb' ea eb hn => ?_) (fun no => ⟨fun _ => hK _ _ (fun K2 h2 => ?_), fun q => absurd (by decide) q⟩)
  · subst ea
    subst eb
    obtain ⟨l1, l2, l3⟩ := lo_lt ha hb'
    have hz : (2 * loN a b + if nbAl w a b = true then 1 else 0) < 96 := by split <;> omega
    have hz2 : (loN a b + if nbAl w a b = true then 48 else 0) < 96 := by split <;> omega
    have near : ∀ {M1 : xMem} {post : Int32 → xMem → Prop}, M1.1 81 9 = nI w → M1.1 81 10 = nI hg → post 1 M1 → w_X9_areNeighbours M1 (nI a) (nI b) post := fun x y hp => v_near x y hw hw2 hb (fun _ _ _ _ _ _ _ => hp) (fun q => absurd hn (q a b ha hb' rfl rfl))
    refine ⟨fun q => absurd q (nI_pos (by omega)), fun _ => ?_⟩
    refine u_isBit (fun i2 => z_f ?_) (fun i2 => z_t (hK _ _ (fun K2 h2 => ?_)))
    · have kh : kd (h + 1) = 0 := by rcases hh with rfl | rfl <;> decide
      have k2 : kd (h + 1 + 1) = 10 ∧ ln (h + 1 + 1) = 96 := by rcases hh with rfl | rfl <;> decide
      have k3 : kd (h + 1 + 2) = 10 ∧ ln (h + 1 + 2) = 96 := by rcases hh with rfl | rfl <;> decide
      obtain ⟨g1, g2⟩ := rG_at (al := nbAl w a b) r8 (show loN a b < 48 by omega)
      have fin : ∀ o R : Nat, (a2 = 0 ∧ o = 0 ∧ R = h + 2 ∧ inN a3 4 ∨ ¬ a2 = 0 ∧ o = 96 ∧ R = h + 3 ∧ inN a3 10) → w_X8_listen (xset M R (2 * loN a b + if nbAl w a b = true then 1 else 0) a3) (fun M20 => K (M.1 R (2 * loN a b + if nbAl w a b = true then 1 else 0)) M20) := fun o R ho => by
        have hR' : R = h + 2 ∨ R = h + 3 := by rcases ho with q | q <;> omega
        have ho2 : o ≤ 96 := by rcases ho with q | q <;> omega
        have old : M.1 R (2 * loN a b + if nbAl w a b = true then 1 else 0) = M.1 83 (o + (loN a b + if nbAl w a b = true then 48 else 0)) := by
          rcases ho with ⟨-, rfl, rfl, -⟩ | ⟨-, rfl, rfl, -⟩
          · rw [Nat.zero_add]
            exact g1
          · exact g2
        have hS' : rS (upd (M.1 83) (o + (loN a b + if nbAl w a b = true then 48 else 0)) a3) := by
          refine rS_upd r6.1 ?_
          rcases ho with ⟨-, rfl, rfl, z⟩ | ⟨-, rfl, rfl, z⟩
          · exact Or.inl ⟨by omega, z⟩
          · exact Or.inr ⟨by omega, z⟩
        have hG' : rG ((xset M R (2 * loN a b + if nbAl w a b = true then 1 else 0) a3).1 (h + 2)) ((xset M R (2 * loN a b + if nbAl w a b = true then 1 else 0) a3).1 (h + 3)) (M.1 (h + 1) 2) (M.1 (h + 1) 3) (upd (M.1 83) (o + (loN a b + if nbAl w a b = true then 48 else 0)) a3) := by
          rcases ho with ⟨-, rfl, rfl, z⟩ | ⟨-, rfl, rfl, z⟩
          · rw [m_upd, m_row _ _ _ (by omega), Nat.zero_add]
            exact rG_upd0 _ (by omega) r8
          · rw [m_row _ _ _ (by omega), m_upd]
            exact rG_upd1 _ (by omega) r8
        have g : ∀ j, j ≠ R → (xset M R (2 * loN a b + if nbAl w a b = true then 1 else 0) a3).1 j = M.1 j := fun j hj => m_row _ _ _ hj
        refine u_listen (w := w) (hg := hg) (f := f) (nw := nw) (nd := nd) (s := upd (M.1 83) (o + (loN a b + if nbAl w a b = true then 48 else 0)) a3) (wk := M.1 87) (dd := M.1 88) hh (by rw [g 0 (by omega)]; exact r2.1) r3 hS' r6.2.1 r6.2.2 (by rw [g 5 (by omega)]; exact r4.2.2.2.2.2) (rX_cong2 r3.2.2.2.1 r3.2.2.2.2 (fun i hi a b c => g _ (by omega)) r7) (by rw [g (h + 1) (by omega)]; exact hG') (by rw [g 16 (by omega)]; exact r2.2.2.1) (fun M' b1 b2 b3 b4 b5 => ?_)
        refine hK _ _ (fun K2 h2 => ?_)
        unfold w_X9_build
        intro M1 e1
        have n81 : ∀ k, k ≠ 0 → M1.1 81 k = M.1 81 k := fun k p => by rw [e1, m_col _ _ _ p, b1 81 (by omega) (by omega) (by omega), g 81 (by omega)]
        have n9 : M1.1 81 9 = nI w := (n81 9 (by omega)).trans r4.1
        refine near n9 ((n81 10 (by omega)).trans r4.2.1) (z_f ?_)
        have last : ∀ o' : Int32, o' = nI o → b_X9_build_60 K2 M1 a3 (nI a) (nI b) (M1.1 81 9) o' := fun o' eo => by
          unfold b_X9_build_60
          rw [n9, eo]
          refine v_spotOf hw hw2 (by omega) (by omega) hn ⟨vp_in_nI (by omega) (by omega), fun M3 e3 => ?_⟩
          rw [nI_clamp (by omega)] at e3 ⊢
          have e3' : M3 = xset M1 83 (o + (loN a b + if nbAl w a b = true then 48 else 0)) a3 := e3
          have m83 : M1.1 83 = M.1 83 := by rw [e1, m_row _ _ _ (by omega), b1 83 (by omega) (by omega) (by omega), g 83 (by omega)]
          show K2 (M1.1 83 _) M3
          rw [m83, ← old]
          have t : ∀ j, j ≠ 81 → j ≠ 83 → M3.1 j = M'.1 j := fun j p q => by rw [e3', m_row _ _ _ q, e1, m_row _ _ _ p]
          have t83 : M3.1 83 = upd (M.1 83) (o + (loN a b + if nbAl w a b = true then 48 else 0)) a3 := by rw [e3', m_upd, m83]
          have t81 : ∀ k, k ≠ 0 → M3.1 81 k = M.1 81 k := fun k p => by rw [e3', m_row _ _ _ (by omega)]; exact n81 k p
          have T : ∀ j, (j < 7 ∨ 13 ≤ j) → j ≠ 15 → j ≠ 16 → j ≠ 81 → j ≠ 83 → M3.1 j = (xset M R (2 * loN a b + if nbAl w a b = true then 1 else 0) a3).1 j := fun j p1 p2 p3 p4 p5 => by rw [t j p4 p5, b1 j p1 p2 p3]
          have TT : ∀ j, (j < 7 ∨ 13 ≤ j) → j ≠ 15 → j ≠ 16 → j ≠ 81 → j ≠ 83 → j ≠ R → M3.1 j = M.1 j := fun j p1 p2 p3 p4 p5 p6 => by rw [T j p1 p2 p3 p4 p5, g j p6]
          have t7 : ∀ i, i < 6 → M3.1 (7 + i) = M'.1 (7 + i) := fun i hi => t _ (by omega) (by omega)
          refine h2 _ ⟨h, d, w, hg, f, nw, nd, Rel_mk hR r3.2.2.1 (by rw [TT 5 (by omega) (by omega) (by omega) (by omega) (by omega) (by omega)]; exact r4.2.2.2.2.2) (by rw [t81 11 (by omega)]; exact r4.2.2.1) (fun k hk => t81 k (by omega)) (fun i hi => TT i (by omega) (by omega) (by omega) (by omega) (by omega) (by omega)) (by rw [t 16 (by omega) (by omega)]; exact b3) ?_ ?_ ?_ (fun i hi => ?_) ?_ ?_⟩
          · rw [t83]
            exact hS'
          · rw [t83, TT (h + 1) (by omega) (by omega) (by omega) (by omega) (by omega) (by omega), T (h + 2) (by omega) (by omega) (by omega) (by omega) (by omega), T (h + 3) (by omega) (by omega) (by omega) (by omega) (by omega)]
            exact hG'
          · rw [TT 17 (by omega) (by omega) (by omega) (by omega) (by omega) (by omega), TT 18 (by omega) (by omega) (by omega) (by omega) (by omega) (by omega), TT 19 (by omega) (by omega) (by omega) (by omega) (by omega) (by omega)]
            refine rH_cong (fun _ _ => rfl) (fun _ _ => rfl) (fun k k1 k2 => ?_) r9
            rw [t83, pk_un (by omega)]
          · rw [t83, TT 87 (by omega) (by omega) (by omega) (by omega) (by omega) (by omega), t7 i (by have := r3.2.2.2.1; omega)]
            exact b4 i hi
          · rw [TT 87 (by omega) (by omega) (by omega) (by omega) (by omega) (by omega), TT 88 (by omega) (by omega) (by omega) (by omega) (by omega) (by omega), t 15 (by omega) (by omega)]
            exact rBr_cong r3.2.2.2.1 t7 b5
          · rw [e3', m_snd, e1, m_snd, b2, m_snd]
            exact r13
        refine v_rng 1 2 rfl (by omega) rfl (fun _ => z_f ?_) (fun q => absurd i2 q)
        unfold b_X9_build_36
        rcases ho with ⟨z, zo, -, zi⟩ | ⟨z, zo, -, zi⟩
        · refine ⟨fun q => absurd z q, fun _ => ?_⟩
          refine v_rng 3 4 rfl (by omega) rfl (fun _ => z_nf ⟨fun q => absurd z q, fun _ => last _ (by rw [zo]; rfl)⟩) (fun q => absurd zi q)
        · refine ⟨fun _ => ?_, fun q => absurd q z⟩
          refine v_rng 9 10 rfl (by omega) rfl (fun _ => z_nf ⟨fun _ => last _ (by rw [zo]; rfl), fun q => absurd q z⟩) (fun q => absurd zi q)
      have bad : (a2 = 0 → ¬ inN a3 4) → (¬ a2 = 0 → ¬ inN a3 10) → K (-1) M := fun q0 q1 => hK _ _ (fun K2 h2 => by
        unfold w_X9_build
        intro M1 e1
        subst e1
        refine near e9 e10 (z_f ?_)
        refine v_rng 1 2 rfl (by omega) rfl (fun _ => z_f ?_) (fun q => absurd i2 q)
        unfold b_X9_build_36
        refine ⟨fun z => ?_, fun z => ?_⟩
        · exact v_rng 9 10 rfl (by omega) rfl (fun q => absurd q (q1 z)) (fun _ => z_nt (h2 _ hthr))
        · exact v_rng 3 4 rfl (by omega) rfl (fun q => absurd q (q0 z)) (fun _ => z_nt (h2 _ hthr)))
      unfold w_X8_mostOf
      refine ⟨fun z => ?_, fun z => ?_⟩
      · refine u_rng 9 10 rfl (by omega) rfl (fun i3 => z_nf ?_) (fun i3 => z_nt (bad (fun y => absurd y z) (fun _ => i3)))
        rw [e5]
        refine ⟨hk, ?_⟩
        unfold w_X0_rowOf
        refine ⟨kh, fun _ => ⟨k3.1, by rw [k3.2]; exact vp_in_nI hz (by omega), fun M18 e18 => ?_⟩, fun y => absurd y z⟩
        rw [nI_clamp (by omega)] at e18 ⊢
        rw [e18]
        exact fin 96 (h + 3) (Or.inr ⟨z, rfl, rfl, i3⟩)
      · refine u_rng 3 4 rfl (by omega) rfl (fun i3 => z_nf ?_) (fun i3 => z_nt (bad (fun _ => i3) (fun y => absurd z y)))
        rw [e5]
        refine ⟨hk, ?_⟩
        unfold w_X0_rowOf
        refine ⟨kh, fun y => absurd z y, fun _ => ⟨k2.1, by rw [k2.2]; exact vp_in_nI hz (by omega), fun M18 e18 => ?_⟩⟩
        rw [nI_clamp (by omega)] at e18 ⊢
        rw [e18]
        exact fin 0 (h + 2) (Or.inl ⟨z, rfl, rfl, i3⟩)
    · unfold w_X9_build
      intro M1 e1
      subst e1
      refine near e9 e10 (z_f ?_)
      exact v_rng 1 2 rfl (by omega) rfl (fun q => absurd q i2) (fun _ => z_t (h2 _ hthr))
  · unfold w_X9_build
    intro M1 e1
    subst e1
    exact v_near e9 e10 hw hw2 hb (fun a b ha hb' ea eb hn => absurd hn (no a b ha hb' ea eb)) (fun _ => z_t (h2 _ hthr))
