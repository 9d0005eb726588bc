/-! the reference reads borders and wind -/
theorem v_rdB {M : xMem} {x : Nat → Int32} {n p w hg nw nd i mx o : Nat} {what : Int32} {s wk dd : Nat → Int32} {post : Int32 → xMem → Prop} {r : xMem → Int32 → Prop} (hA : rAl M x n (tkE x n p)) (hD : rDf M w hg nw nd s wk dd) (hw : 1 ≤ w ∧ w ≤ 8) (hN : 1 ≤ w * hg ∧ w * hg ≤ 48) (hk : (what = 1 ∧ mx = 3 ∧ o = 0) ∨ (what = 2 ∧ mx = 9 ∧ o = 96)) (hok : al (ckB x n p w (w * hg) mx) 4 → ∀ M', rFr M M' → rAl M' x n (ps x n p 5) → rDf M' w hg nw nd (upd s (o + (loN (tkV x n (ps x n p 1)) (tkV x n (ps x n p 2)) + if nbAl w (tkV x n (ps x n p 1)) (tkV x n (ps x n p 2)) = true then 48 else 0)) (nI (tkV x n (ps x n p 3)))) wk dd → r M' (nI (i + 1))) (hbad : ∀ st M', fl x n p (ckB x n p w (w * hg) mx) 4 st → rFr M M' → rDe M' st → r M' (nI (i + 1))) : w_X9_readsItem M what (fun M7 => b_X9_hill_156 post r M7 (nI i)) := by
  have hmx : mx ≤ 9 ∧ o ≤ 96 := by rcases hk with q | q <;> omega
  have bt : w_X9_readsBetween M what (fun M7 => b_X9_hill_156 post r M7 (nI i)) := by
    obtain ⟨⟨d12, d13, d22, d23⟩, d84, d87, d88⟩ := id hD
    unfold w_X9_readsBetween
    rw [d12, d13]
    have J0 : rJ M x n p (ckB x n p w (w * hg) mx) 0 := Or.inl ⟨al_0, hA⟩
    refine v_nm (lo := 0) J0 Iff.rfl (fun _ => ⟨⟨rfl, yd1 hN.1⟩, by omega, by omega⟩) (fun z1 M2 k2 J2 e2 => ?_)
    obtain ⟨p1, p2, p3, p4, p5, p6, p7⟩ := rTo_at k2
    have h13 := tkC_le (x := x) (n := n) (p := ps x n p 2)
    obtain ⟨a, ha, ea⟩ : ∃ a, a < w * hg ∧ z1 = nI a := by
      by_cases c : al (ckB x n p w (w * hg) mx) 1
      · have := (c 1 (by omega) (by omega)).2.2
        exact ⟨tkV x n (ps x n p 1), by omega, e2.1 c⟩
      · exact ⟨0, by omega, e2.2 c⟩
    have fin1 : ∀ M10 z5 z7 z9, rTo M M10 → al (ckB x n p w (w * hg) mx) 3 → rAl M10 x n (ps x n p 4) → z5 = nI (tkV x n (ps x n p 1)) → z7 = nI (tkV x n (ps x n p 2)) → z9 = nI (tkV x n (ps x n p 3)) → ∀ oI : Int32, oI = nI o → b_X9_readsBetween_114 (fun M7 => b_X9_hill_156 post r M7 (nI i)) M10 z9 (81 + 3) z5 z7 (M10.1 81 12) oI := fun M10 z5 z7 z9 k10 c b e5 e7 e9 oI eo => by
      obtain ⟨q1, q2, q3, q4, q5, q6, q7⟩ := rTo_at k10
      have n1 := (c 1 (by omega) (by omega)).2.2
      have n2 := (c 2 (by omega) (by omega)).1.2.2
      have nb := (c 2 (by omega) (by omega)).2
      obtain ⟨l1, l2, l3⟩ := lo_lt (a := tkV x n (ps x n p 1)) (b := tkV x n (ps x n p 2)) (n := w * hg) (by omega) (by omega)
      have hsp : (loN (tkV x n (ps x n p 1)) (tkV x n (ps x n p 2)) + if nbAl w (tkV x n (ps x n p 1)) (tkV x n (ps x n p 2)) = true then 48 else 0) < 96 := by split <;> omega
      unfold b_X9_readsBetween_114
      rw [e5, e7, e9, eo, q1, d12]
      refine v_spotOf hw.1 hw.2 (by omega) (by omega) nb ⟨by decide, by rw [show ln (81 + 3) = 207 by decide]; exact vp_in_nI (by omega) (by omega), fun M5 e5' => ?_⟩
      rw [nI_clamp (by omega)] at e5'
      have e5'' : M5 = xset M10 84 (o + (loN (tkV x n (ps x n p 1)) (tkV x n (ps x n p 2)) + if nbAl w (tkV x n (ps x n p 1)) (tkV x n (ps x n p 2)) = true then 48 else 0)) (nI (tkV x n (ps x n p 3))) := e5'
      have f5 := rFr_tr (rFr_T k10) (rFr_84 e5'')
      have J5 : rJ M5 x n p (ckB x n p w (w * hg) mx) 3 := rJ_set (Or.inl ⟨c, b⟩) e5'' (by omega)
      refine v_156 (m := 3) J5 Iff.rfl (fun c M' k q => hok c M' (rFr_tr f5 (rFr_T k)) q (rDf_T k ?_)) (fun st M' c k q => hbad st M' c (rFr_tr f5 (rFr_T k)) q)
      refine ⟨⟨?_, ?_, ?_, ?_⟩, fun k hk => ?_, fun k hk => ?_, fun k hk => ?_⟩
      · rw [e5'', m_row _ _ _ (by omega), q1, d12]
      · rw [e5'', m_row _ _ _ (by omega), q2, d13]
      · rw [e5'', m_row _ _ _ (by omega), q3, d22]
      · rw [e5'', m_row _ _ _ (by omega), q4, d23]
      · rw [e5'', m_upd, q5]
        by_cases ek : k = (o + (loN (tkV x n (ps x n p 1)) (tkV x n (ps x n p 2)) + if nbAl w (tkV x n (ps x n p 1)) (tkV x n (ps x n p 2)) = true then 48 else 0))
        · rw [ek, pk_us, pk_us]
        · rw [pk_un ek, pk_un ek]
          exact d84 k hk
      · rw [e5'', m_row _ _ _ (by omega), q6]
        exact d87 k hk
      · rw [e5'', m_row _ _ _ (by omega), q7]
        exact d88 k hk
    have fin2 : ∀ M10 st, rTo M M10 → fl x n p (ckB x n p w (w * hg) mx) 3 st → rDe M10 st → b_X9_hill_156 post r M10 (nI i) := fun M10 st k10 c b => v_156 (ck := ckB x n p w (w * hg) mx) (m := 3) (Or.inr ⟨st, c, b⟩) Iff.rfl (fun cc => (fl_no c (al_dn cc (by omega))).elim) (fun st M' c k q => hbad st M' c (rFr_tr (rFr_T k10) (rFr_T k)) q)
    have go : ∀ sI : Int32, (al (ckB x n p w (w * hg) mx) 1 → rAl M2 x n (ps x n p 2) → (ckB x n p w (w * hg) mx 2 → sI = 1) ∧ (¬ ckB x n p w (w * hg) mx 2 → sI = 0)) → b_X9_readsBetween_62 (fun M7 => b_X9_hill_156 post r M7 (nI i)) M2 what z1 sI := fun sI hs => by
      unfold b_X9_readsBetween_62
      refine v_take J2 hs (fun z7 M8 k8 J8 e8 => ?_)
      have k28 : rTo M M8 := ⟨fun j hj => (k8.1 j hj).trans (k2.1 j hj), fun k a b c d e => (k8.2.1 k a b c d e).trans (k2.2.1 k a b c d e), k8.2.2.trans k2.2.2⟩
      have num : ∀ (mI : Int32) (Q : Int32 → xMem → Prop), mI = nI mx → (∀ z9 M10, rTo M M10 → ((al (ckB x n p w (w * hg) mx) 3 ∧ rAl M10 x n (ps x n p 4) ∧ z1 = nI (tkV x n (ps x n p 1)) ∧ z7 = nI (tkV x n (ps x n p 2)) ∧ z9 = nI (tkV x n (ps x n p 3))) ∨ ∃ st, fl x n p (ckB x n p w (w * hg) mx) 3 st ∧ rDe M10 st) → Q z9 M10) → w_X9_number M8 (0 : Int32) mI Q := fun mI Q em hQ => by
        refine v_nm (lo := 0) (hi := mx) J8 Iff.rfl (fun _ => ⟨⟨rfl, em⟩, by omega, by omega⟩) (fun z9 M10 k10 J10 e10 => ?_)
        have k210 : rTo M M10 := ⟨fun j hj => (k10.1 j hj).trans (k28.1 j hj), fun k a b c d e => (k10.2.1 k a b c d e).trans (k28.2.1 k a b c d e), k10.2.2.trans k28.2.2⟩
        refine hQ z9 M10 k210 (J10.imp (fun ⟨c, b⟩ => ⟨c, b, e2.1 (al_dn c (by omega)), ?_, e10.1 c⟩) id)
        obtain ⟨u1, u2⟩ := e8.1 (al_dn c (by omega))
        rw [u1]
        exact u2.2.2.2.2.2.2.1 (c 2 (by omega) (by omega)).1.1
      unfold b_X9_readsBetween_80
      rcases hk with ⟨e, em, eo⟩ | ⟨e, em, eo⟩
      · rw [e]
        refine ⟨fun z => absurd rfl z, fun _ => num 3 _ (by rw [em]; rfl) (fun z9 M10 k10 hJ => ?_)⟩
        rcases hJ with ⟨c, b, e5, e7, e9⟩ | ⟨st, c, b⟩
        · exact v_well b ⟨fun z => absurd z (by decide), fun _ => ⟨fun z => absurd rfl z, fun _ => fin1 M10 z1 z7 z9 k10 c b e5 e7 e9 0 (by rw [eo]; rfl)⟩⟩
        · exact v_wellD b ⟨fun _ => fin2 M10 st k10 c b, fun z => absurd rfl z⟩
      · rw [e]
        refine ⟨fun _ => num 9 _ (by rw [em]; rfl) (fun z9 M10 k10 hJ => ?_), fun z => absurd z (by decide)⟩
        rcases hJ with ⟨c, b, e5, e7, e9⟩ | ⟨st, c, b⟩
        · exact v_well b ⟨fun z => absurd z (by decide), fun _ => ⟨fun _ => fin1 M10 z1 z7 z9 k10 c b e5 e7 e9 96 (by rw [eo]; rfl), fun z => absurd z (by decide)⟩⟩
        · exact v_wellD b ⟨fun _ => fin2 M10 st k10 c b, fun z => absurd rfl z⟩
    unfold b_X9_readsBetween_61
    refine ⟨fun ne => go 0 (fun c b => ⟨fun c2 => ?_, fun _ => rfl⟩), fun e => ?_⟩
    · rw [b.2.2.2.2.2.1, (rTk2 h13).mpr c2.1.1] at ne
      exact absurd rfl ne
    · rw [yd1 hN.1]
      refine u_in (fun x1 x2 => z_f ?_) (fun q => z_t (go 0 (fun c b => ⟨fun c2 => ?_, fun _ => rfl⟩)))
      · obtain ⟨v, hv, ev⟩ := (inN_rng (x := M2.1 81 7) (a := w * hg - 1) (n := w * hg) (by omega) (by omega)).mpr ⟨x1, x2⟩
        rw [p1, d12, ea, ev]
        have vals : al (ckB x n p w (w * hg) mx) 1 → rAl M2 x n (ps x n p 2) → tkC x n (ps x n p 2) = 2 ∧ tkV x n (ps x n p 1) = a ∧ tkV x n (ps x n p 2) = v := fun c b => by
          rw [b.2.2.2.2.2.1] at e
          have := rTk_lt h13
          have c2 := (rTk2 h13).mp (q_inj (a := rTk (tkC x n (ps x n p 2))) (b := 2) (by omega) (by omega) e)
          have v99 := tkV_le c2
          have n1 := (c 1 (by omega) (by omega)).2.2
          have e1 := b.2.2.2.2.2.2.1 c2
          rw [ev] at e1
          have e3 : z1 = nI (tkV x n (ps x n p 1)) := e2.1 c
          rw [ea] at e3
          exact ⟨c2, (q_inj (by omega) (by omega) e3).symm, (q_inj (by omega) (by omega) e1).symm⟩
        rw [← ea]
        have go0 := go 0
        have go1 := go 1
        rw [ea] at go0 go1 ⊢
        refine v_areBeside hw.1 hw.2 (by omega) (by omega) (fun hn => z_f (go1 (fun c b => ⟨fun _ => rfl, fun nc => ?_⟩))) (fun hn => z_t (go0 (fun c b => ⟨fun c2 => ?_, fun _ => rfl⟩)))
        · exfalso
          obtain ⟨c2, v1, v2⟩ := vals c b
          exact nc ⟨⟨c2, by omega, by omega⟩, by rw [v1, v2]; exact hn⟩
        · exfalso
          obtain ⟨c2', v1, v2⟩ := vals c b
          have := c2.2
          rw [v1, v2] at this
          exact hn this
      · exfalso
        have v99 := tkV_le c2.1.1
        rw [b.2.2.2.2.2.2.1 c2.1.1] at q
        exact q ⟨nI_le c2.1.2.1 (by omega), nI_le c2.1.2.2 (by omega)⟩
  unfold w_X9_readsItem b_X9_readsItem_49
  rcases hk with ⟨e, -, -⟩ | ⟨e, -, -⟩
  · rw [e] at bt ⊢
    exact ⟨fun _ => ⟨fun _ => bt, fun z => absurd rfl z⟩, fun z => absurd z (by decide)⟩
  · rw [e] at bt ⊢
    exact ⟨fun _ => ⟨fun z => absurd z (by decide), fun _ => ⟨fun z => absurd rfl z, fun _ => bt⟩⟩, fun z => absurd z (by decide)⟩
theorem rVl_wind : ∀ c, c < 14 → 4 ≤ c → (((6 : Int32) ≤ rVl c ∧ rVl c ≤ (9 : Int32)) ↔ (8 ≤ c ∧ c ≤ 11)) := by decide
theorem v_rdV {M : xMem} {x : Nat → Int32} {n p w hg nw nd i : Nat} {s wk dd : Nat → Int32} {post : Int32 → xMem → Prop} {r : xMem → Int32 → Prop} (hA : rAl M x n (tkE x n p)) (hD : rDf M w hg nw nd s wk dd) (hok : al (ckV x n p) 3 → ∀ M', rFr M M' → rAl M' x n (ps x n p 4) → rDf M' w hg nw nd (upd s (192 + wdK (tkC x n (ps x n p 1))) (wdV (tkC x n (ps x n p 1)) (tkV x n (ps x n p 2)))) wk dd → r M' (nI (i + 1))) (hbad : ∀ st M', fl x n p (ckV x n p) 3 st → rFr M M' → rDe M' st → r M' (nI (i + 1))) : w_X9_readsItem M 3 (fun M7 => b_X9_hill_156 post r M7 (nI i)) := by
  obtain ⟨⟨d12, d13, d22, d23⟩, d84, d87, d88⟩ := hD
  have h13 := tkC_le (x := x) (n := n) (p := ps x n p 1)
  have J0 : rJ M x n p (ckV x n p) 0 := Or.inl ⟨al_0, hA⟩
  have go : ∀ sI : Int32, (al (ckV x n p) 0 → rAl M x n (ps x n p 1) → (ckV x n p 1 → sI = 1) ∧ (¬ ckV x n p 1 → sI = 0)) → b_X9_readsItem_90 (fun M7 => b_X9_hill_156 post r M7 (nI i)) M sI := fun sI hs => by
    unfold b_X9_readsItem_90
    refine v_take J0 hs (fun z1 M2 k2 J2 e2 => ?_)
    refine v_nm (lo := 0) (hi := 2) J2 Iff.rfl (fun _ => ⟨⟨rfl, rfl⟩, by omega, by omega⟩) (fun z3 M4 k4 J4 e4 => ?_)
    have k24 : rTo M M4 := ⟨fun j hj => (k4.1 j hj).trans (k2.1 j hj), fun k a b c d e => (k4.2.1 k a b c d e).trans (k2.2.1 k a b c d e), k4.2.2.trans k2.2.2⟩
    obtain ⟨q1, q2, q3, q4, q5, q6, q7⟩ := rTo_at k24
    rcases id J4 with ⟨c, b⟩ | ⟨st, c, b⟩
    · refine v_well b ⟨fun z => absurd z (by decide), fun _ => ?_⟩
      have hc := c 1 (by omega) (by omega)
      obtain ⟨u1, u2⟩ := e2.1 (al_dn c (by omega))
      have h4 : 4 ≤ tkC x n (ps x n p 1) := Nat.le_trans (by omega) hc.1
      have ez1 : z1 = rVl (tkC x n (ps x n p 1)) := u1.trans (u2.2.2.2.2.2.2.2 h4)
      have ez3 := e4.1 c
      have fin : ∀ (aI v : Int32), aI = nI (192 + wdK (tkC x n (ps x n p 1))) → v = wdV (tkC x n (ps x n p 1)) (tkV x n (ps x n p 2)) → b_X9_readsItem_154 (fun M7 => b_X9_hill_156 post r M7 (nI i)) M4 (81 + 3) aI v := fun aI v ea ev => by
        have hw1 : wdK (tkC x n (ps x n p 1)) ≤ 1 := by unfold wdK; split <;> omega
        unfold b_X9_readsItem_154 b_X9_readsItem_155
        rw [ea, ev]
        refine ⟨by decide, by rw [show ln (81 + 3) = 207 by decide]; exact vp_in_nI (by omega) (by omega), fun M5 e5' => ?_⟩
        rw [nI_clamp (by omega)] at e5'
        have e5'' : M5 = xset M4 84 (192 + wdK (tkC x n (ps x n p 1))) (wdV (tkC x n (ps x n p 1)) (tkV x n (ps x n p 2))) := e5'
        have f5 := rFr_tr (rFr_T k24) (rFr_84 e5'')
        have J5 := rJ_set J4 e5'' (by omega)
        refine v_156 (m := 2) J5 Iff.rfl (fun c M' k q => hok c M' (rFr_tr f5 (rFr_T k)) q (rDf_T k ?_)) (fun st M' c k q => hbad st M' c (rFr_tr f5 (rFr_T k)) q)
        refine ⟨⟨?_, ?_, ?_, ?_⟩, fun k hk => ?_, fun k hk => ?_, fun k hk => ?_⟩
        · rw [e5'', m_row _ _ _ (by omega), q1, d12]
        · rw [e5'', m_row _ _ _ (by omega), q2, d13]
        · rw [e5'', m_row _ _ _ (by omega), q3, d22]
        · rw [e5'', m_row _ _ _ (by omega), q4, d23]
        · rw [e5'', m_upd, q5]
          by_cases ek : k = 192 + wdK (tkC x n (ps x n p 1))
          · rw [ek, pk_us, pk_us]
          · rw [pk_un ek, pk_un ek]
            exact d84 k hk
        · rw [e5'', m_row _ _ _ (by omega), q6]
          exact d87 k hk
        · rw [e5'', m_row _ _ _ (by omega), q7]
          exact d88 k hk
      unfold b_X9_readsItem_125 b_X9_readsItem_134 b_X9_readsItem_146
      rw [ez1, ez3]
      have hc1 := hc.1
      have hc2 := hc.2
      rcases (show tkC x n (ps x n p 1) = 8 ∨ tkC x n (ps x n p 1) = 9 ∨ tkC x n (ps x n p 1) = 10 ∨ tkC x n (ps x n p 1) = 11 by omega) with e | e | e | e
      · rw [e] at fin ⊢
        exact ⟨fun _ => ⟨fun _ => fin 192 _ rfl rfl, fun z => absurd rfl z⟩, fun z => absurd rfl z⟩
      · rw [e] at fin ⊢
        exact ⟨fun z => absurd z (by decide), fun _ => ⟨fun z => absurd rfl z, fun _ => ⟨fun z => absurd z (by decide), fun _ => ⟨fun _ => fin 192 _ rfl rfl, fun z => absurd z (by decide)⟩⟩⟩⟩
      · rw [e] at fin ⊢
        exact ⟨fun z => absurd z (by decide), fun _ => ⟨fun _ => ⟨fun z => absurd z (by decide), fun _ => ⟨fun z => absurd rfl z, fun _ => fin 193 _ rfl rfl⟩⟩, fun z => absurd z (by decide)⟩⟩
      · rw [e] at fin ⊢
        exact ⟨fun z => absurd z (by decide), fun _ => ⟨fun _ => ⟨fun z => absurd z (by decide), fun _ => ⟨fun _ => fin 193 _ rfl rfl, fun z => absurd z (by decide)⟩⟩, fun z => absurd z (by decide)⟩⟩
    · refine v_wellD b ⟨fun _ => ?_, fun z => absurd rfl z⟩
      unfold b_X9_readsItem_155
      exact v_156 (m := 2) J4 Iff.rfl (fun cc => (fl_no c (al_dn cc (by omega))).elim) (fun st M' c k q => hbad st M' c (rFr_tr (rFr_T k24) (rFr_T k)) q)
  unfold w_X9_readsItem b_X9_readsItem_89
  refine ⟨fun _ => ⟨fun z => absurd z (by decide), fun _ => ⟨fun _ => ⟨fun z => absurd rfl z, fun _ => ⟨fun ne => go 0 (fun _ b => ⟨fun c1 => ?_, fun _ => rfl⟩), fun e => ?_⟩⟩, fun z => absurd z (by decide)⟩⟩, fun z => absurd z (by decide)⟩
  · have := c1.1
    rw [b.2.2.2.2.2.1, (rTk1 h13).mpr (by omega)] at ne
    exact absurd rfl ne
  · have e' := e
    have c4 : 4 ≤ tkC x n (ps x n p 1) := by
      rw [show M.1 81 5 = nI (rTk (tkC x n (ps x n p 1))) from hA.2.2.2.2.2.1] at e'
      have := rTk_lt h13
      exact (rTk1 h13).mp (q_inj (a := rTk (tkC x n (ps x n p 1))) (b := 1) (by omega) (by omega) e')
    have ev : M.1 81 7 = rVl (tkC x n (ps x n p 1)) := hA.2.2.2.2.2.2.2 c4
    rw [ev]
    have tb := rVl_wind (tkC x n (ps x n p 1)) (by omega) c4
    exact u_in (fun x1 x2 => z_f (go 1 (fun _ _ => ⟨fun _ => rfl, fun nc => absurd (tb.mp ⟨x1, x2⟩) nc⟩))) (fun q => z_t (go 0 (fun _ _ => ⟨fun c => absurd (tb.mpr c) q, fun _ => rfl⟩)))
