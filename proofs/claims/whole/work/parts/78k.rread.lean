/-! the reference reads items -/
def wkU (x : Nat → Int32) (n p : Nat) (wk : Nat → Int32) (q : Nat) (k : Nat) : Int32 := if k < q then wk k else nI (tkV x n (ps x n p (k - q + 1)))
theorem r6 (k : Nat) : (81 + 6) = 87 ∧ k = k := ⟨rfl, rfl⟩
theorem rFr_87 {M M' : xMem} {k : Nat} {v : Int32} (h : M' = xset M 87 k v) (hk : 24 ≤ k) : rFr M M' := by
  subst h
  exact ⟨fun j _ _ c _ => m_row _ _ _ c, fun k _ => by rw [m_row _ _ _ (by omega)], fun k _ => m_col _ _ _ (by omega), fun k _ => by rw [m_row _ _ _ (by omega)], rfl⟩
theorem rFr_88 {M M' : xMem} {k : Nat} {v : Int32} (h : M' = xset M 88 k v) (hk : 40 ≤ k) : rFr M M' := by
  subst h
  exact ⟨fun j _ _ _ d => m_row _ _ _ d, fun k _ => by rw [m_row _ _ _ (by omega)], fun k _ => by rw [m_row _ _ _ (by omega)], fun k _ => m_col _ _ _ (by omega), rfl⟩
theorem rFr_84 {M M' : xMem} {k : Nat} {v : Int32} (h : M' = xset M 84 k v) : rFr M M' := by
  subst h
  exact ⟨fun j _ b _ _ => m_row _ _ _ b, fun k _ => by rw [m_row _ _ _ (by omega)], fun k _ => by rw [m_row _ _ _ (by omega)], fun k _ => by rw [m_row _ _ _ (by omega)], rfl⟩
theorem rFr_81 {M M' : xMem} {k : Nat} {v : Int32} (h : M' = xset M 81 k v) (hk : k = 12 ∨ k = 13 ∨ k = 22 ∨ k = 23) : rFr M M' := by
  subst h
  exact ⟨fun j a _ _ _ => m_row _ _ _ a, fun k _ => m_col _ _ _ (by omega), fun k _ => by rw [m_row _ _ _ (by omega)], fun k _ => by rw [m_row _ _ _ (by omega)], rfl⟩
theorem rJ_set {M M' : xMem} {x : Nat → Int32} {n p j R k : Nat} {v : Int32} {ck : Nat → Prop} (h : rJ M x n p ck j) (e : M' = xset M R k v) (hR : (R ≠ 81 ∧ R ≠ 82) ∨ (R = 81 ∧ 9 ≤ k)) : rJ M' x n p ck j := by
  subst e
  refine rJ_row h (m_row _ _ _ (by omega)) (fun c hc => ?_)
  by_cases e : R = 81
  · subst e
    exact m_col _ _ _ (by omega)
  · rw [m_row _ _ _ (Ne.symm e)]
theorem rTo_at {M M' : xMem} (h : rTo M M') : M'.1 81 12 = M.1 81 12 ∧ M'.1 81 13 = M.1 81 13 ∧ M'.1 81 22 = M.1 81 22 ∧ M'.1 81 23 = M.1 81 23 ∧ M'.1 84 = M.1 84 ∧ M'.1 87 = M.1 87 ∧ M'.1 88 = M.1 88 := ⟨h.2.1 12 (by omega) (by omega) (by omega) (by omega) (by omega), h.2.1 13 (by omega) (by omega) (by omega) (by omega) (by omega), h.2.1 22 (by omega) (by omega) (by omega) (by omega) (by omega), h.2.1 23 (by omega) (by omega) (by omega) (by omega) (by omega), h.1 84 (by omega), h.1 87 (by omega), h.1 88 (by omega)⟩
theorem v_rdW {M : xMem} {x : Nat → Int32} {n p w hg nw nd i : Nat} {s wk dd : Nat → Int32} {post : Int32 → xMem → Prop} {r : xMem → Int32 → Prop} (hA : rAl M x n (tkE x n p)) (hD : rDf M w hg nw nd s wk dd) (hnw : nw < 6) (hN : 1 ≤ w * hg ∧ w * hg ≤ 48) (hok : al (ckW x n p (w * hg)) 5 → ∀ M', rFr M M' → rAl M' x n (ps x n p 6) → rDf M' w hg (nw + 1) nd s (wkU x n p wk (4 * nw)) dd → r M' (nI (i + 1))) (hbad : ∀ st M', fl x n p (ckW x n p (w * hg)) 5 st → rFr M M' → rDe M' st → r M' (nI (i + 1))) : w_X9_readsItem M 4 (fun M7 => b_X9_hill_156 post r M7 (nI i)) := by
  obtain ⟨⟨d12, d13, d22, d23⟩, d84, d87, d88⟩ := hD
  unfold w_X9_readsItem
  refine ⟨fun _ => ⟨fun z => absurd z (by decide), fun _ => ⟨fun _ => ⟨fun _ => ⟨fun z => absurd rfl z, fun _ v28 e28 => ?_⟩, fun z => absurd z (by decide)⟩, fun z => absurd z (by decide)⟩⟩, fun z => absurd z (by decide)⟩
  rw [d22, show (4 : Int32) = nI 4 from rfl, pk_mul, show (24 : Int32) = nI 24 from rfl, nI_add] at e28
  subst e28
  have a1 : nI (24 + 4 * nw) + (1 : Int32) = nI (24 + 4 * nw + 1) := nI_1 _
  have a2 : nI (24 + 4 * nw) + (2 : Int32) = nI (24 + 4 * nw + 2) := nI_add _ 2
  have a3 : nI (24 + 4 * nw) + (3 : Int32) = nI (24 + 4 * nw + 3) := nI_add _ 3
  rw [d12, d13, a1, a2, a3]
  have J0 : rJ M x n p (ckW x n p (w * hg)) 0 := Or.inl ⟨al_0, hA⟩
  refine v_nm (lo := 0) J0 Iff.rfl (fun _ => ⟨⟨rfl, yd1 hN.1⟩, by omega, by omega⟩) (fun z1 M30 k30 J30 e30 => ⟨vp_in_nI (by omega) (by omega), fun M32 e32 => ?_⟩)
  rw [nI_clamp (by omega)] at e32
  have J32 := rJ_set J30 e32 (by omega)
  refine v_nm (lo := 1) (hi := 99) J32 Iff.rfl (fun _ => ⟨⟨rfl, rfl⟩, by omega, by omega⟩) (fun z2 M34 k34 J34 e34 => ⟨vp_in_nI (by omega) (by omega), fun M36 e36 => ?_⟩)
  rw [nI_clamp (by omega)] at e36
  have J36 := rJ_set J34 e36 (by omega)
  refine v_nm (lo := 0) (hi := 4) J36 Iff.rfl (fun _ => ⟨⟨rfl, rfl⟩, by omega, by omega⟩) (fun z3 M38 k38 J38 e38 => ⟨vp_in_nI (by omega) (by omega), fun M40 e40 => ?_⟩)
  rw [nI_clamp (by omega)] at e40
  have J40 := rJ_set J38 e40 (by omega)
  refine v_nm (lo := 0) (hi := 99) J40 Iff.rfl (fun _ => ⟨⟨rfl, rfl⟩, by omega, by omega⟩) (fun z4 M42 k42 J42 e42 => ⟨vp_in_nI (by omega) (by omega), fun M44 e44 M45 e45 => ?_⟩)
  rw [nI_clamp (by omega)] at e44
  have J44 := rJ_set J42 e44 (by omega)
  have J45 := rJ_set J44 e45 (by omega)
  have f45 : rFr M M45 := rFr_tr (rFr_T k30) (rFr_tr (rFr_87 e32 (by omega)) (rFr_tr (rFr_T k34) (rFr_tr (rFr_87 e36 (by omega)) (rFr_tr (rFr_T k38) (rFr_tr (rFr_87 e40 (by omega)) (rFr_tr (rFr_T k42) (rFr_tr (rFr_87 e44 (by omega)) (rFr_81 e45 (by omega)))))))))
  refine v_156 (m := 4) J45 Iff.rfl (fun c M' k q => hok c M' (rFr_tr f45 (rFr_T k)) q (rDf_T k ?_)) (fun st M' c k q => hbad st M' c (rFr_tr f45 (rFr_T k)) q)
  have c1 := e30.1 (al_dn c (by omega))
  have c2 := e34.1 (al_dn c (by omega))
  have c3 := e38.1 (al_dn c (by omega))
  have c4 := e42.1 (al_dn c (by omega))
  obtain ⟨p1, p2, p3, p4, p5, p6, p7⟩ := rTo_at k30
  obtain ⟨q1, q2, q3, q4, q5, q6, q7⟩ := rTo_at k34
  obtain ⟨s1, s2, s3, s4, s5, s6, s7⟩ := rTo_at k38
  obtain ⟨t1, t2, t3, t4, t5, t6, t7⟩ := rTo_at k42
  have e32' : M32 = xset M30 87 (24 + 4 * nw) z1 := e32
  have e36' : M36 = xset M34 87 (24 + 4 * nw + 1) z2 := e36
  have e40' : M40 = xset M38 87 (24 + 4 * nw + 2) z3 := e40
  have e44' : M44 = xset M42 87 (24 + 4 * nw + 3) z4 := e44
  have r81 : ∀ c, M44.1 81 c = M42.1 81 c ∧ M40.1 81 c = M38.1 81 c ∧ M36.1 81 c = M34.1 81 c ∧ M32.1 81 c = M30.1 81 c := fun c => by
    rw [e44', e40', e36', e32', m_row _ _ _ (by omega), m_row _ _ _ (by omega), m_row _ _ _ (by omega), m_row _ _ _ (by omega)]
    exact ⟨rfl, rfl, rfl, rfl⟩
  have g22 : M44.1 81 22 = nI nw := by rw [(r81 22).1, t3, (r81 22).2.1, s3, (r81 22).2.2.1, q3, (r81 22).2.2.2, p3, d22]
  have r87 : M45.1 87 = upd (upd (upd (upd (M.1 87) (24 + 4 * nw) z1) (24 + 4 * nw + 1) z2) (24 + 4 * nw + 2) z3) (24 + 4 * nw + 3) z4 := by
    rw [e45, m_row _ _ _ (by omega), e44', m_upd, t6, e40', m_upd, s6, e36', m_upd, q6, e32', m_upd, p6]
  refine ⟨⟨?_, ?_, ?_, ?_⟩, fun k hk => ?_, fun k hk => ?_, fun k hk => ?_⟩
  · rw [e45, m_col _ _ _ (by omega), (r81 12).1, t1, (r81 12).2.1, s1, (r81 12).2.2.1, q1, (r81 12).2.2.2, p1, d12]
  · rw [e45, m_col _ _ _ (by omega), (r81 13).1, t2, (r81 13).2.1, s2, (r81 13).2.2.1, q2, (r81 13).2.2.2, p2, d13]
  · rw [e45, m_same, g22, nI_1]
  · rw [e45, m_col _ _ _ (by omega), (r81 23).1, t4, (r81 23).2.1, s4, (r81 23).2.2.1, q4, (r81 23).2.2.2, p4, d23]
  · rw [e45, m_row _ _ _ (by omega), e44', m_row _ _ _ (by omega), t5, e40', m_row _ _ _ (by omega), s5, e36', m_row _ _ _ (by omega), q5, e32', m_row _ _ _ (by omega), p5]
    exact d84 k hk
  · rw [r87]
    unfold wkU
    by_cases h4 : k < 4 * nw
    · rw [if_pos h4, pk_un (by omega), pk_un (by omega), pk_un (by omega), pk_un (by omega)]
      exact d87 k h4
    · rw [if_neg h4]
      rcases (show k = 4 * nw ∨ k = 4 * nw + 1 ∨ k = 4 * nw + 2 ∨ k = 4 * nw + 3 by omega) with e | e | e | e
      · rw [e, pk_un (by omega), pk_un (by omega), pk_un (by omega), pk_us, c1, Nat.sub_self]
      · rw [e, pk_un (by omega), pk_un (by omega), show 24 + (4 * nw + 1) = 24 + 4 * nw + 1 by omega, pk_us, c2, Nat.add_sub_cancel_left]
      · rw [e, pk_un (by omega), show 24 + (4 * nw + 2) = 24 + 4 * nw + 2 by omega, pk_us, c3, Nat.add_sub_cancel_left]
      · rw [e, show 24 + (4 * nw + 3) = 24 + 4 * nw + 3 by omega, pk_us, c4, Nat.add_sub_cancel_left]
  · rw [e45, m_row _ _ _ (by omega), e44', m_row _ _ _ (by omega), t7, e40', m_row _ _ _ (by omega), s7, e36', m_row _ _ _ (by omega), q7, e32', m_row _ _ _ (by omega), p7]
    exact d88 k hk
theorem v_rdD {M : xMem} {x : Nat → Int32} {n p w hg nw nd i : Nat} {s wk dd : Nat → Int32} {post : Int32 → xMem → Prop} {r : xMem → Int32 → Prop} (hA : rAl M x n (tkE x n p)) (hD : rDf M w hg nw nd s wk dd) (hnd : nd < 8) (hN : 1 ≤ w * hg ∧ w * hg ≤ 48) (hok : al (ckD x n p (w * hg)) 6 → ∀ M', rFr M M' → rAl M' x n (ps x n p 7) → rDf M' w hg nw (nd + 1) s wk (wkU x n p dd (5 * nd)) → r M' (nI (i + 1))) (hbad : ∀ st M', fl x n p (ckD x n p (w * hg)) 6 st → rFr M M' → rDe M' st → r M' (nI (i + 1))) : w_X9_readsItem M 5 (fun M7 => b_X9_hill_156 post r M7 (nI i)) := by
  obtain ⟨⟨d12, d13, d22, d23⟩, d84, d87, d88⟩ := hD
  unfold w_X9_readsItem
  refine ⟨fun _ => ⟨fun z => absurd z (by decide), fun _ => ⟨fun _ => ⟨fun _ => ⟨fun _ v6 e6 => ?_, fun z => absurd z (by decide)⟩, fun z => absurd z (by decide)⟩, fun z => absurd z (by decide)⟩⟩, fun z => absurd z (by decide)⟩
  rw [d23, show (5 : Int32) = nI 5 from rfl, pk_mul, show (40 : Int32) = nI 40 from rfl, nI_add] at e6
  subst e6
  have a1 : nI (40 + 5 * nd) + (1 : Int32) = nI (40 + 5 * nd + 1) := nI_1 _
  have a2 : nI (40 + 5 * nd) + (2 : Int32) = nI (40 + 5 * nd + 2) := nI_add _ 2
  have a3 : nI (40 + 5 * nd) + (3 : Int32) = nI (40 + 5 * nd + 3) := nI_add _ 3
  have a4 : nI (40 + 5 * nd) + (4 : Int32) = nI (40 + 5 * nd + 4) := nI_add _ 4
  rw [d12, d13, a1, a2, a3, a4]
  have J0 : rJ M x n p (ckD x n p (w * hg)) 0 := Or.inl ⟨al_0, hA⟩
  refine v_nm (lo := 0) J0 Iff.rfl (fun _ => ⟨⟨rfl, yd1 hN.1⟩, by omega, by omega⟩) (fun z1 M30 k30 J30 e30 => ⟨vp_in_nI (by omega) (by omega), fun M32 e32 => ?_⟩)
  rw [nI_clamp (by omega)] at e32
  have J32 := rJ_set J30 e32 (by omega)
  refine v_nm (lo := 0) (hi := 11) J32 Iff.rfl (fun _ => ⟨⟨rfl, rfl⟩, by omega, by omega⟩) (fun z2 M34 k34 J34 e34 => ⟨vp_in_nI (by omega) (by omega), fun M36 e36 => ?_⟩)
  rw [nI_clamp (by omega)] at e36 ⊢
  have J36 := rJ_set J34 e36 (by omega)
  have e36' : M36 = xset M34 88 (40 + 5 * nd + 1) z2 := e36
  have l3 : M36.1 (81 + 7) (40 + 5 * nd + 1) = z2 := by
    rw [e36']
    exact m_same _ _ _ _
  rw [l3]
  refine v_nm (lo := tkV x n (ps x n p 2)) (hi := 11) J36 Iff.rfl (fun a => ⟨⟨e34.1 a, rfl⟩, by have := tkV_le (a 2 (by omega) (by omega)).1; omega, by omega⟩) (fun z3 M38 k38 J38 e38 => ⟨vp_in_nI (by omega) (by omega), fun M40 e40 => ?_⟩)
  rw [nI_clamp (by omega)] at e40
  have J40 := rJ_set J38 e40 (by omega)
  refine v_nm (lo := 0) (hi := 99) J40 Iff.rfl (fun _ => ⟨⟨rfl, rfl⟩, by omega, by omega⟩) (fun z4 M42 k42 J42 e42 => ⟨vp_in_nI (by omega) (by omega), fun M44 e44 => ?_⟩)
  rw [nI_clamp (by omega)] at e44
  have J44 := rJ_set J42 e44 (by omega)
  refine v_nm (lo := 0) (hi := 99) J44 Iff.rfl (fun _ => ⟨⟨rfl, rfl⟩, by omega, by omega⟩) (fun z5 M46 k46 J46 e46 => ⟨vp_in_nI (by omega) (by omega), fun M48 e48 M45 e45 => ?_⟩)
  rw [nI_clamp (by omega)] at e48
  have J48 := rJ_set J46 e48 (by omega)
  have J45 := rJ_set J48 e45 (by omega)
  have f45 : rFr M M45 := rFr_tr (rFr_T k30) (rFr_tr (rFr_88 e32 (by omega)) (rFr_tr (rFr_T k34) (rFr_tr (rFr_88 e36 (by omega)) (rFr_tr (rFr_T k38) (rFr_tr (rFr_88 e40 (by omega)) (rFr_tr (rFr_T k42) (rFr_tr (rFr_88 e44 (by omega)) (rFr_tr (rFr_T k46) (rFr_tr (rFr_88 e48 (by omega)) (rFr_81 e45 (by omega)))))))))))
  refine v_156 (m := 5) J45 Iff.rfl (fun c M' k q => hok c M' (rFr_tr f45 (rFr_T k)) q (rDf_T k ?_)) (fun st M' c k q => hbad st M' c (rFr_tr f45 (rFr_T k)) q)
  have c1 := e30.1 (al_dn c (by omega))
  have c2 := e34.1 (al_dn c (by omega))
  have c3 := e38.1 (al_dn c (by omega))
  have c4 := e42.1 (al_dn c (by omega))
  have c5 := e46.1 (al_dn c (by omega))
  obtain ⟨p1, p2, p3, p4, p5, p6, p7⟩ := rTo_at k30
  obtain ⟨q1, q2, q3, q4, q5, q6, q7⟩ := rTo_at k34
  obtain ⟨s1, s2, s3, s4, s5, s6, s7⟩ := rTo_at k38
  obtain ⟨t1, t2, t3, t4, t5, t6, t7⟩ := rTo_at k42
  obtain ⟨u1, u2, u3, u4, u5, u6, u7⟩ := rTo_at k46
  have e32' : M32 = xset M30 88 (40 + 5 * nd) z1 := e32
  have e40' : M40 = xset M38 88 (40 + 5 * nd + 2) z3 := e40
  have e44' : M44 = xset M42 88 (40 + 5 * nd + 3) z4 := e44
  have e48' : M48 = xset M46 88 (40 + 5 * nd + 4) z5 := e48
  have r81 : ∀ c, M48.1 81 c = M46.1 81 c ∧ M44.1 81 c = M42.1 81 c ∧ M40.1 81 c = M38.1 81 c ∧ M36.1 81 c = M34.1 81 c ∧ M32.1 81 c = M30.1 81 c := fun c => by
    rw [e48', e44', e40', e36', e32', m_row _ _ _ (by omega), m_row _ _ _ (by omega), m_row _ _ _ (by omega), m_row _ _ _ (by omega), m_row _ _ _ (by omega)]
    exact ⟨rfl, rfl, rfl, rfl, rfl⟩
  have g23 : M48.1 81 23 = nI nd := by rw [(r81 23).1, u4, (r81 23).2.1, t4, (r81 23).2.2.1, s4, (r81 23).2.2.2.1, q4, (r81 23).2.2.2.2, p4, d23]
  have r88 : M45.1 88 = upd (upd (upd (upd (upd (M.1 88) (40 + 5 * nd) z1) (40 + 5 * nd + 1) z2) (40 + 5 * nd + 2) z3) (40 + 5 * nd + 3) z4) (40 + 5 * nd + 4) z5 := by
    rw [e45, m_row _ _ _ (by omega), e48', m_upd, u7, e44', m_upd, t7, e40', m_upd, s7, e36', m_upd, q7, e32', m_upd, p7]
  refine ⟨⟨?_, ?_, ?_, ?_⟩, fun k hk => ?_, fun k hk => ?_, fun k hk => ?_⟩
  · rw [e45, m_col _ _ _ (by omega), (r81 12).1, u1, (r81 12).2.1, t1, (r81 12).2.2.1, s1, (r81 12).2.2.2.1, q1, (r81 12).2.2.2.2, p1, d12]
  · rw [e45, m_col _ _ _ (by omega), (r81 13).1, u2, (r81 13).2.1, t2, (r81 13).2.2.1, s2, (r81 13).2.2.2.1, q2, (r81 13).2.2.2.2, p2, d13]
  · rw [e45, m_col _ _ _ (by omega), (r81 22).1, u3, (r81 22).2.1, t3, (r81 22).2.2.1, s3, (r81 22).2.2.2.1, q3, (r81 22).2.2.2.2, p3, d22]
  · rw [e45, m_same, g23, nI_1]
  · rw [e45, m_row _ _ _ (by omega), e48', m_row _ _ _ (by omega), u5, e44', m_row _ _ _ (by omega), t5, e40', m_row _ _ _ (by omega), s5, e36', m_row _ _ _ (by omega), q5, e32', m_row _ _ _ (by omega), p5]
    exact d84 k hk
  · rw [e45, m_row _ _ _ (by omega), e48', m_row _ _ _ (by omega), u6, e44', m_row _ _ _ (by omega), t6, e40', m_row _ _ _ (by omega), s6, e36', m_row _ _ _ (by omega), q6, e32', m_row _ _ _ (by omega), p6]
    exact d87 k hk
  · rw [r88]
    unfold wkU
    by_cases h5 : k < 5 * nd
    · rw [if_pos h5, pk_un (by omega), pk_un (by omega), pk_un (by omega), pk_un (by omega), pk_un (by omega)]
      exact d88 k h5
    · rw [if_neg h5]
      rcases (show k = 5 * nd ∨ k = 5 * nd + 1 ∨ k = 5 * nd + 2 ∨ k = 5 * nd + 3 ∨ k = 5 * nd + 4 by omega) with e | e | e | e | e
      · rw [e, pk_un (by omega), pk_un (by omega), pk_un (by omega), pk_un (by omega), pk_us, c1, Nat.sub_self]
      · rw [e, pk_un (by omega), pk_un (by omega), pk_un (by omega), show 40 + (5 * nd + 1) = 40 + 5 * nd + 1 by omega, pk_us, c2, Nat.add_sub_cancel_left]
      · rw [e, pk_un (by omega), pk_un (by omega), show 40 + (5 * nd + 2) = 40 + 5 * nd + 2 by omega, pk_us, c3, Nat.add_sub_cancel_left]
      · rw [e, pk_un (by omega), show 40 + (5 * nd + 3) = 40 + 5 * nd + 3 by omega, pk_us, c4, Nat.add_sub_cancel_left]
      · rw [e, show 40 + (5 * nd + 4) = 40 + 5 * nd + 4 by omega, pk_us, c5, Nat.add_sub_cancel_left]
theorem v_rdH {M : xMem} {x : Nat → Int32} {n p w hg nw nd i : Nat} {s wk dd : Nat → Int32} {post : Int32 → xMem → Prop} {r : xMem → Int32 → Prop} (hA : rAl M x n (tkE x n p)) (hD : rDf M w hg nw nd s wk dd) (hok : al (ckH x n p) 3 → ∀ M', rFr M M' → rAl M' x n (ps x n p 4) → rDf M' (tkV x n (ps x n p 1)) (tkV x n (ps x n p 2)) nw nd s wk dd → r M' (nI (i + 1))) (hbad : ∀ st M', fl x n p (ckH x n p) 3 st → rFr M M' → rDe M' st → r M' (nI (i + 1))) : w_X9_readsItem M 0 (fun M7 => b_X9_hill_156 post r M7 (nI i)) := by
  obtain ⟨⟨d12, d13, d22, d23⟩, d84, d87, d88⟩ := hD
  unfold w_X9_readsItem
  refine ⟨fun z => absurd rfl z, fun _ => ?_⟩
  have J0 : rJ M x n p (ckH x n p) 0 := Or.inl ⟨al_0, hA⟩
  refine v_nm (lo := 1) (hi := 8) J0 Iff.rfl (fun _ => ⟨⟨rfl, rfl⟩, by omega, by omega⟩) (fun z1 M30 k30 J30 e30 M32 e32 => ?_)
  have J32 := rJ_set J30 e32 (by omega)
  refine v_nm (lo := 1) (hi := 6) J32 Iff.rfl (fun _ => ⟨⟨rfl, rfl⟩, by omega, by omega⟩) (fun z2 M34 k34 J34 e34 M36 e36 => ?_)
  have J36 := rJ_set J34 e36 (by omega)
  have f36 : rFr M M36 := rFr_tr (rFr_T k30) (rFr_tr (rFr_81 e32 (by omega)) (rFr_tr (rFr_T k34) (rFr_81 e36 (by omega))))
  refine v_156 (m := 2) J36 Iff.rfl (fun c M' k q => hok c M' (rFr_tr f36 (rFr_T k)) q (rDf_T k ?_)) (fun st M' c k q => hbad st M' c (rFr_tr f36 (rFr_T k)) q)
  have c1 := e30.1 (al_dn c (by omega))
  have c2 := e34.1 (al_dn c (by omega))
  obtain ⟨p1, p2, p3, p4, p5, p6, p7⟩ := rTo_at k30
  obtain ⟨q1, q2, q3, q4, q5, q6, q7⟩ := rTo_at k34
  refine ⟨⟨?_, ?_, ?_, ?_⟩, fun k hk => ?_, fun k hk => ?_, fun k hk => ?_⟩
  · rw [e36, m_col _ _ _ (by omega), q1, e32, m_same, c1]
  · rw [e36, m_same, c2]
  · rw [e36, m_col _ _ _ (by omega), q3, e32, m_col _ _ _ (by omega), p3, d22]
  · rw [e36, m_col _ _ _ (by omega), q4, e32, m_col _ _ _ (by omega), p4, d23]
  · rw [e36, m_row _ _ _ (by omega), q5, e32, m_row _ _ _ (by omega), p5]
    exact d84 k hk
  · rw [e36, m_row _ _ _ (by omega), q6, e32, m_row _ _ _ (by omega), p6]
    exact d87 k hk
  · rw [e36, m_row _ _ _ (by omega), q7, e32, m_row _ _ _ (by omega), p7]
    exact d88 k hk
