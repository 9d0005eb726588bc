/-! rates -/
theorem n_t {c A B : Prop} (h : ¬ c) (a : A) : (¬ c → A) ∧ (c → B) := ⟨fun _ => a, fun q => absurd q h⟩
theorem n_f {c A B : Prop} (h : c) (b : B) : (¬ c → A) ∧ (c → B) := ⟨fun q => absurd h q, fun _ => b⟩
theorem a_noise {M : xMem} {h i : Nat} {post : Int32 → xMem → Prop} (e5 : (M.1 0 5).toNatClampNeg = h) (hk : kd h = 2) (hi : i < 6) (hp : post (M.1 (h + 4 + 1 + i) 1) (xlset M 0 (M.2 0 + 1))) : w_X8_asNoise M (nI i) post := by
  unfold w_X8_asNoise
  intro M1 e1
  subst e1
  rw [m_lfst, e5]
  refine ⟨hk, vp_in_nI hi (by omega), ?_⟩
  rw [nI_clamp (by omega)]
  exact hp
theorem a_struck {M : xMem} {h i : Nat} {post : Int32 → xMem → Prop} (e5 : (M.1 0 5).toNatClampNeg = h) (hk : kd h = 2) (hi : i < 6) (hp : post (M.1 (h + 4 + 1 + i) 1 + M.1 (h + 4 + 1 + i) 3) (xlset (xlset M 0 (M.2 0 + 10)) 0 ((xlset M 0 (M.2 0 + 10)).2 0 + 1))) : w_X8_asStruck M (nI i) post := by
  unfold w_X8_asStruck
  intro M1 e1
  subst e1
  refine a_noise e5 hk hi ?_
  rw [m_lfst, m_lfst, e5]
  refine ⟨hk, vp_in_nI hi (by omega), ?_⟩
  rw [nI_clamp (by omega)]
  exact hp
theorem a_held {M : xMem} {h i : Nat} {post : Int32 → xMem → Prop} (e5 : (M.1 0 5).toNatClampNeg = h) (hk : kd h = 2) (hi : i < 6) (hp : post (M.1 (h + 4 + 1 + i) 1 + M.1 (h + 4 + 1 + i) 0) (xlset (xlset M 0 (M.2 0 + 100)) 0 ((xlset M 0 (M.2 0 + 100)).2 0 + 1))) : w_X8_asHeld M (nI i) post := by
  unfold w_X8_asHeld
  intro M1 e1
  subst e1
  refine a_noise e5 hk hi ?_
  rw [m_lfst, m_lfst, e5]
  refine ⟨hk, vp_in_nI hi (by omega), ?_⟩
  rw [nI_clamp (by omega)]
  exact hp
theorem a_many {M : xMem} {h i : Nat} {post : Int32 → xMem → Prop} (e5 : (M.1 0 5).toNatClampNeg = h) (hk : kd h = 2) (hi : i < 6) (hp : post (M.1 (h + 4 + 1 + i) 1 + M.1 (h + 4 + 1 + i) 2) (xlset (xlset M 0 (M.2 0 + 100000)) 0 ((xlset M 0 (M.2 0 + 100000)).2 0 + 1))) : w_X8_asMany M (nI i) post := by
  unfold w_X8_asMany
  intro M1 e1
  subst e1
  refine a_noise e5 hk hi ?_
  rw [m_lfst, m_lfst, e5]
  refine ⟨hk, vp_in_nI hi (by omega), ?_⟩
  rw [nI_clamp (by omega)]
  exact hp
/-- the reference's rate, for a worker that there is -/
theorem v_rate {M Mc : xMem} {h d w hg f nw nd i : Nat} (hR : Rel M h d w hg f nw nd) (hi : i < nw) (hM : Mc.1 = M.1) (p : Int32) (hp : inN p 6) {r : Int32} {t : Int64} {K2 : Int32 → xMem → Prop} (h1 : Mc.2 1 = M.2 1) (h0 : Mc.2 0 = M.2 0 + t)
    (hv : (p = 0 → r = M.1 87 (4 * i + 1) ∧ t = 1) ∧ (p = 1 → r = M.1 87 (4 * i + 1) + M.1 87 (4 * i + 3) ∧ t = 11) ∧ (p = 2 → r = M.1 87 (4 * i + 1) + M.1 87 (4 * i) ∧ t = 101) ∧ (p = 3 → r = 2 * (M.1 87 (4 * i + 1) + M.1 87 (4 * i)) ∧ t = 1101) ∧ (p = 4 → r = M.1 87 (4 * i + 1) + M.1 87 (4 * i + 3) - M.1 81 11 ∧ t = 10011) ∧ (p = 5 → r = M.1 87 (4 * i + 1) + M.1 87 (4 * i + 2) ∧ t = 100001)) (h2 : ∀ M2, RelE M2 → K2 r M2) : w_X9_rate Mc p (nI i) K2 := by
  obtain ⟨r1, r2, r3, r4, r5, r6, r7, r8, r9, r10, r11, r12, r13⟩ := id hR
  have hnw : nw ≤ 6 := r3.2.2.2.1
  unfold w_X9_rate
  intro M1 e1
  have f1 : ∀ j, j ≠ 81 → M1.1 j = M.1 j := fun j hj => by rw [e1, m_row _ _ _ hj, hM]
  have f81 : ∀ k, k ≠ 0 → M1.1 81 k = M.1 81 k := fun k hk => by rw [e1, m_col _ _ _ hk, hM]
  have f2 : M1.2 = Mc.2 := by rw [e1, m_snd]
  refine v_rng 5 6 rfl (by omega) rfl (fun _ => z_f ?_) (fun q => absurd hp q)
  refine v_isWorker ((f81 20 (by omega)).trans r4.2.2.2.1) (by omega) (fun _ => ⟨fun _ => ?_, fun q => absurd q (by decide)⟩) (fun q => absurd ⟨i, hi, rfl⟩ q)
  have ei : ∀ k, (4 : Int32) * nI i + nI k = nI (4 * i + k) := fun k => by rw [show (4 : Int32) = nI 4 from rfl, pk_mul, nI_add]
  have e0 : (4 : Int32) * nI i = nI (4 * i) := by rw [show (4 : Int32) = nI 4 from rfl, pk_mul]
  have g1 : (4 : Int32) * nI i + (1 : Int32) = nI (4 * i + 1) := ei 1
  have g2 : (4 : Int32) * nI i + (2 : Int32) = nI (4 * i + 2) := ei 2
  have g3 : (4 : Int32) * nI i + (3 : Int32) = nI (4 * i + 3) := ei 3
  rw [g1, g3, e0]
  refine ⟨vp_in_nI (by omega) (by omega), fun v9 e9 => ⟨vp_in_nI (by omega) (by omega), fun v11 e11 => ⟨vp_in_nI (by omega) (by omega), fun v13 e13 => ?_⟩⟩⟩
  rw [nI_clamp (by omega)] at e9 e11 e13
  have c9 : v9 = M.1 87 (4 * i + 1) := by rw [e9]; show M1.1 87 _ = _; rw [f1 87 (by omega)]
  have c11 : v11 = M.1 87 (4 * i + 1) + M.1 87 (4 * i + 3) := by rw [e11, c9]; show _ + M1.1 87 _ = _; rw [f1 87 (by omega)]
  have c13 : v13 = M.1 87 (4 * i + 1) + M.1 87 (4 * i) := by rw [e13, c9]; show _ + M1.1 87 _ = _; rw [f1 87 (by omega)]
  have fin : ∀ tt : Int64, t = tt → RelE (xlset M1 1 (M1.2 1 + tt)) := by
    intro tt et
    refine ⟨h, d, w, hg, f, nw, nd, Rel_soft hR (fun j hj => ?_) (fun k hk => ?_) (fun k hk => ?_) ?_ ?_ (fun j hj => ?_) ?_⟩
    · rw [m_lfst, f1 j (by omega)]
    · rw [m_lfst, f81 k (by omega)]
    · rw [m_lfst, f1 83 (by omega)]
    · rw [m_lfst, f1 3 (by omega), f1 2 (by omega), f81 3 (by omega), f1 82 (by omega)]
      exact r5
    · rw [m_lfst, f1 17 (by omega), f1 18 (by omega), f1 19 (by omega), f1 83 (by omega)]
      exact r9
    · rw [m_lfst, f1 (21 + 7 * j) (by omega), f1 (22 + 7 * j) (by omega), f1 (23 + 7 * j) (by omega), f1 (24 + 7 * j) (by omega), f1 (25 + 7 * j) (by omega), f1 (26 + 7 * j) (by omega), f1 (27 + 7 * j) (by omega), f1 85 (by omega), f1 86 (by omega)]
      exact r10 j hj
    · rw [m_lsame, m_lne _ _ (by omega), f2, h0, h1, ← et, ← r13]
  obtain ⟨k, hk, rfl⟩ := hp
  obtain ⟨w0, w1, w2, w3, w4, w5⟩ := hv
  rcases (show k = 0 ∨ k = 1 ∨ k = 2 ∨ k = 3 ∨ k = 4 ∨ k = 5 by omega) with rfl | rfl | rfl | rfl | rfl | rfl
  · refine n_f rfl ?_
    unfold b_X9_rate_122
    intro M2 e2
    subst e2
    obtain ⟨a, b⟩ := w0 rfl
    refine n_f rfl ?_
    rw [c9, ← a]
    exact h2 _ (fin 1 b)
  · refine n_t (by decide) (n_f rfl ?_)
    unfold b_X9_rate_122
    intro M2 e2
    subst e2
    obtain ⟨a, b⟩ := w1 rfl
    refine n_t (by decide) (n_f rfl ?_)
    rw [c11, ← a]
    exact h2 _ (fin 11 b)
  · refine n_t (by decide) (n_t (by decide) (n_f rfl ?_))
    unfold b_X9_rate_122
    intro M2 e2
    subst e2
    obtain ⟨a, b⟩ := w2 rfl
    refine n_t (by decide) (n_t (by decide) (n_f rfl ?_))
    rw [c13, ← a]
    exact h2 _ (fin 101 b)
  · refine n_t (by decide) (n_t (by decide) (n_t (by decide) (n_f rfl ?_)))
    unfold b_X9_rate_122
    intro M2 e2
    subst e2
    obtain ⟨a, b⟩ := w3 rfl
    refine n_t (by decide) (n_t (by decide) (n_t (by decide) (n_f rfl ?_)))
    rw [c13, ← a]
    exact h2 _ (fin 1101 b)
  · refine n_t (by decide) (n_t (by decide) (n_t (by decide) (n_t (by decide) (n_f rfl ?_))))
    unfold b_X9_rate_122
    intro M2 e2
    subst e2
    obtain ⟨a, b⟩ := w4 rfl
    refine n_t (by decide) (n_t (by decide) (n_t (by decide) (n_t (by decide) (n_f rfl ?_))))
    rw [c11, m_lfst, f81 11 (by omega), ← a]
    exact h2 _ (fin 10011 b)
  · refine n_t (by decide) (n_t (by decide) (n_t (by decide) (n_t (by decide) (n_t (by decide) ?_))))
    unfold b_X9_rate_122
    intro M2 e2
    subst e2
    obtain ⟨a, b⟩ := w5 rfl
    refine n_t (by decide) (n_t (by decide) (n_t (by decide) (n_t (by decide) (n_t (by decide) ?_))))
    rw [g2]
    refine ⟨vp_in_nI (by omega) (by omega), ?_⟩
    rw [nI_clamp (by omega), c9, m_lfst]
    show K2 (_ + M1.1 87 _) _
    rw [f1 87 (by omega), ← a]
    exact h2 _ (fin 100001 b)
theorem P_rate {M : xMem} (hR : RelE M) (a0 : Int32) (a1 : Int32) {K : Int32 → xMem → Prop} (hK : ∀ r M1, (∀ K2 : Int32 → xMem → Prop, (∀ M2, RelE M2 → K2 r M2) → w_X9_rate M1 a0 a1 K2) → K r M1) : w_X8_rate M a0 a1 K := by
  obtain ⟨h, d, w, hg, f, nw, nd, hR⟩ := hR
  obtain ⟨hh, e5, hk⟩ := Rel_h hR
  obtain ⟨r1, r2, r3, r4, r5, r6, r7, r8, r9, r10, r11, r12, r13⟩ := id hR
  have hnw : nw ≤ 6 := r3.2.2.2.1
  have hthr : RelE (xset M 81 0 0) := ⟨h, d, w, hg, f, nw, nd, Rel_thr hR⟩
  have e20 : (xset M 81 0 0).1 81 20 = nI nw := (m_col _ _ _ (by omega)).trans r4.2.2.2.1
  unfold w_X8_rate
  rw [e5]
  refine u_isWorker hk r7.1.2.2.1 (by omega) (fun hin => ⟨fun _ => ?_, fun q => absurd q (by decide)⟩) (fun hin => ⟨fun q => absurd rfl q, fun _ => ?_⟩)
  · obtain ⟨i, hi, rfl⟩ := hin
    have wv : ∀ k, k < 4 → M.1 (h + 4 + 1 + i) k = M.1 87 (4 * i + k) := fun k hk' => by
      rw [show h + 4 + 1 + i = h + (5 + i) by omega]
      exact r7.2.1 i k hi hk'
    have a64 : ∀ x a b c : Int64, a + b = c → x + a + b = x + c := fun x a b c e => by rw [Int64.add_assoc, e]
    refine ⟨fun e => ?_, fun e => ?_, fun e => ?_, fun e => ?_, fun e => ?_, fun e => ?_, fun n0 n1 n2 n3 n4 n5 => ?_⟩
    · subst e
      refine a_noise e5 hk (by omega) (hK _ _ (fun K2 h2 => v_rate (t := 1) hR hi (by rfl) 0 ⟨0, by omega, rfl⟩ (m_lne _ _ (by omega)) (m_lsame _ _ _) ⟨fun _ => ⟨wv 1 (by omega), rfl⟩, fun q => absurd q (by decide), fun q => absurd q (by decide), fun q => absurd q (by decide), fun q => absurd q (by decide), fun q => absurd q (by decide)⟩ h2))
    · subst e
      refine a_struck e5 hk (by omega) (hK _ _ (fun K2 h2 => v_rate (t := 11) hR hi (by rfl) 1 ⟨1, by omega, rfl⟩ ((m_lne _ _ (by omega)).trans (m_lne _ _ (by omega))) (by rw [m_lsame, m_lsame]; exact a64 _ _ _ _ rfl) ⟨fun q => absurd q (by decide), fun _ => ⟨by rw [wv 1 (by omega), wv 3 (by omega)], rfl⟩, fun q => absurd q (by decide), fun q => absurd q (by decide), fun q => absurd q (by decide), fun q => absurd q (by decide)⟩ h2))
    · subst e
      refine a_held e5 hk (by omega) (hK _ _ (fun K2 h2 => v_rate (t := 101) hR hi (by rfl) 2 ⟨2, by omega, rfl⟩ ((m_lne _ _ (by omega)).trans (m_lne _ _ (by omega))) (by rw [m_lsame, m_lsame]; exact a64 _ _ _ _ rfl) ⟨fun q => absurd q (by decide), fun q => absurd q (by decide), fun _ => ⟨by rw [wv 1 (by omega), show M.1 (h + 4 + 1 + i) 0 = M.1 87 (4 * i) from wv 0 (by omega)], rfl⟩, fun q => absurd q (by decide), fun q => absurd q (by decide), fun q => absurd q (by decide)⟩ h2))
    · subst e
      unfold w_X8_asBlown
      intro M1 e1
      subst e1
      refine a_held e5 hk (by omega) (hK _ _ (fun K2 h2 => v_rate (t := 1101) hR hi (by rfl) 3 ⟨3, by omega, rfl⟩ (((m_lne _ _ (by omega)).trans (m_lne _ _ (by omega))).trans (m_lne _ _ (by omega))) (by rw [m_lsame, m_lsame, m_lsame, a64 _ 100 1 101 rfl]; exact a64 _ _ _ _ rfl) ⟨fun q => absurd q (by decide), fun q => absurd q (by decide), fun q => absurd q (by decide), fun _ => ⟨by rw [m_lfst, wv 1 (by omega), show M.1 (h + 4 + 1 + i) 0 = M.1 87 (4 * i) from wv 0 (by omega)], rfl⟩, fun q => absurd q (by decide), fun q => absurd q (by decide)⟩ h2))
    · subst e
      unfold w_X8_asDrummed
      intro M1 e1
      subst e1
      refine a_struck e5 hk (by omega) (hK _ _ (fun K2 h2 => v_rate (t := 10011) hR hi (by rfl) 4 ⟨4, by omega, rfl⟩ (((m_lne _ _ (by omega)).trans (m_lne _ _ (by omega))).trans (m_lne _ _ (by omega))) (by rw [m_lsame, m_lsame, m_lsame, a64 _ 10 1 11 rfl]; exact a64 _ _ _ _ rfl) ⟨fun q => absurd q (by decide), fun q => absurd q (by decide), fun q => absurd q (by decide), fun q => absurd q (by decide), fun _ => ⟨by rw [m_lfst, m_lfst, m_lfst, wv 1 (by omega), wv 3 (by omega), r4.2.2.1]; show _ - M.1 5 2 = _; rw [r4.2.2.2.2.2], rfl⟩, fun q => absurd q (by decide)⟩ h2))
    · subst e
      refine a_many e5 hk (by omega) (hK _ _ (fun K2 h2 => v_rate (t := 100001) hR hi (by rfl) 5 ⟨5, by omega, rfl⟩ ((m_lne _ _ (by omega)).trans (m_lne _ _ (by omega))) (by rw [m_lsame, m_lsame]; exact a64 _ _ _ _ rfl) ⟨fun q => absurd q (by decide), fun q => absurd q (by decide), fun q => absurd q (by decide), fun q => absurd q (by decide), fun q => absurd q (by decide), fun _ => ⟨by rw [wv 1 (by omega), wv 2 (by omega)], rfl⟩⟩ h2))
    · refine hK _ _ (fun K2 h2 => ?_)
      unfold w_X9_rate
      intro M1 e1
      subst e1
      refine v_rng 5 6 rfl (by omega) rfl (fun q => ?_) (fun _ => z_t (h2 _ hthr))
      obtain ⟨k, hk6, rfl⟩ := q
      rcases (show k = 0 ∨ k = 1 ∨ k = 2 ∨ k = 3 ∨ k = 4 ∨ k = 5 by omega) with rfl | rfl | rfl | rfl | rfl | rfl
      · exact absurd rfl n0
      · exact absurd rfl n1
      · exact absurd rfl n2
      · exact absurd rfl n3
      · exact absurd rfl n4
      · exact absurd rfl n5
  · refine hK _ _ (fun K2 h2 => ?_)
    unfold w_X9_rate
    intro M1 e1
    subst e1
    refine v_rng 5 6 rfl (by omega) rfl (fun _ => z_f ?_) (fun _ => z_t (h2 _ hthr))
    exact v_isWorker e20 (by omega) (fun q => absurd q hin) (fun _ => ⟨fun q => absurd rfl q, fun _ => h2 _ hthr⟩)
