/-! small questions: is there such a yard, worker, deed; then calls that read alone -/
theorem inN_iff {x : Int32} {n : Nat} (hn : n < 2147483648) : inN x n ↔ ¬ x < 0 ∧ ¬ nI n ≤ x := by
  constructor
  · rintro ⟨k, h1, rfl⟩
    exact ⟨nI_pos (by omega), nI_ge h1 hn⟩
  · rintro ⟨h1, h2⟩
    rw [q_lt] at h1
    rw [q_le, q_toI _ hn] at h2
    have e0 : (0 : Int32).toInt = 0 := by decide
    rw [e0] at h1
    exact inN_of (by omega) (by omega) hn
theorem nI_sub1 {n : Nat} (hn : n < 1000000) : (nI n - (1 : Int32)).toInt = (n : Int) - 1 := pk_sub_toInt (a := n) (b := 1) (by omega) (by omega)
theorem inN_iff2 {x : Int32} {n : Nat} (hn : n < 1000000) : inN x n ↔ (0 : Int32) ≤ x ∧ x ≤ nI n - 1 := by
  have e0 : (0 : Int32).toInt = 0 := by decide
  rw [q_le, q_le, nI_sub1 hn, e0]
  constructor
  · intro h
    have := inN_toInt h (by omega)
    omega
  · rintro ⟨h1, h2⟩
    exact inN_of h1 (by omega) (by omega)
theorem inN_rng {x : Int32} {a n : Nat} (ha : a < 1000000) (e : a + 1 = n) : inN x n ↔ (0 : Int32) ≤ x ∧ x ≤ nI a := by
  have e0 : (0 : Int32).toInt = 0 := by decide
  rw [q_le, q_le, e0, q_toI _ (by omega)]
  constructor
  · intro h
    have := inN_toInt h (by omega)
    omega
  · rintro ⟨h1, h2⟩
    exact inN_of h1 (by omega) (by omega)
/-- what the class asks, by what is so -/
theorem u_isWorker {M : xMem} {h : Nat} {p : Int32} {nw : Nat} {post : Int32 → xMem → Prop} (hk : kd h = 2) (e : M.1 h 2 = nI nw) (hn : nw < 1000) (h1 : inN p nw → post 1 M) (h0 : ¬ inN p nw → post 0 M) : w_X2_isWorker M h p post := by
  unfold w_X2_isWorker
  rw [e]
  refine ⟨hk, fun q => h0 (fun z => ((inN_iff (by omega)).mp z).1 q), fun q => ⟨fun q2 => h0 (fun z => ((inN_iff (by omega)).mp z).2 q2), fun q2 => h1 ((inN_iff (by omega)).mpr ⟨q, q2⟩)⟩⟩
theorem u_isDeed {M : xMem} {h : Nat} {p : Int32} {nw : Nat} {post : Int32 → xMem → Prop} (hk : kd h = 2) (e : M.1 h 3 = nI nw) (hn : nw < 1000) (h1 : inN p nw → post 1 M) (h0 : ¬ inN p nw → post 0 M) : w_X2_isDeed M h p post := by
  unfold w_X2_isDeed
  rw [e]
  refine ⟨hk, fun q => h0 (fun z => ((inN_iff (by omega)).mp z).1 q), fun q => ⟨fun q2 => h0 (fun z => ((inN_iff (by omega)).mp z).2 q2), fun q2 => h1 ((inN_iff (by omega)).mpr ⟨q, q2⟩)⟩⟩
theorem u_isYard {M : xMem} {h : Nat} {p : Int32} {w hg : Nat} {post : Int32 → xMem → Prop} (hk : kd h = 2) (e0 : M.1 h 0 = nI w) (e1 : M.1 h 1 = nI hg) (hn : w * hg < 1000) (h1 : inN p (w * hg) → post 1 M) (h0 : ¬ inN p (w * hg) → post 0 M) : w_X2_isYard M h p post := by
  unfold w_X2_isYard
  rw [e0, e1, pk_mul]
  refine ⟨hk, fun q => h0 (fun z => ((inN_iff (by omega)).mp z).1 q), fun q => ⟨fun q2 => h0 (fun z => ((inN_iff (by omega)).mp z).2 q2), fun q2 => h1 ((inN_iff (by omega)).mpr ⟨q, q2⟩)⟩⟩
/-- the reference -/
theorem v_isWorker {M : xMem} {p : Int32} {nw : Nat} {post : Int32 → xMem → Prop} (e : M.1 81 20 = nI nw) (hn : nw < 1000) (h1 : inN p nw → post 1 M) (h0 : ¬ inN p nw → post 0 M) : w_X9_isWorker M p post := by
  unfold w_X9_isWorker
  rw [e]
  exact u_in (fun a b => ⟨Or.inr rfl, h1 ((inN_iff2 (by omega)).mpr ⟨a, b⟩)⟩) (fun q => ⟨Or.inl rfl, h0 (fun z => q ((inN_iff2 (by omega)).mp z))⟩)
theorem v_isYard {M : xMem} {p : Int32} {w hg : Nat} {post : Int32 → xMem → Prop} (e0 : M.1 81 9 = nI w) (e1 : M.1 81 10 = nI hg) (hn : w * hg < 1000) (h1 : inN p (w * hg) → post 1 M) (h0 : ¬ inN p (w * hg) → post 0 M) : w_X9_isYard M p post := by
  unfold w_X9_isYard
  rw [e0, e1, pk_mul]
  exact u_in (fun a b => ⟨Or.inr rfl, h1 ((inN_iff2 (by omega)).mpr ⟨a, b⟩)⟩) (fun q => ⟨Or.inl rfl, h0 (fun z => q ((inN_iff2 (by omega)).mp z))⟩)
/-- a number from 0 to a -/
theorem u_rng {M : xMem} {p : Int32} (a n : Nat) {b : Int32} {post : Int32 → xMem → Prop} (hb : b = nI a) (ha : a < 1000000) (e : a + 1 = n) (h1 : inN p n → post 1 M) (h0 : ¬ inN p n → post 0 M) : w_X8_within M p (0 : Int32) b post := by
  subst hb
  exact u_within (fun x y => h1 ((inN_rng ha e).mpr ⟨x, y⟩)) (fun q => h0 (fun z => q ((inN_rng ha e).mp z)))
theorem v_rng {M : xMem} {p : Int32} (a n : Nat) {b : Int32} {post : Int32 → xMem → Prop} (hb : b = nI a) (ha : a < 1000000) (e : a + 1 = n) (h1 : inN p n → post 1 M) (h0 : ¬ inN p n → post 0 M) : w_X9_in M p (0 : Int32) b post := by
  subst hb
  exact u_in (fun x y => h1 ((inN_rng ha e).mpr ⟨x, y⟩)) (fun q => h0 (fun z => q ((inN_rng ha e).mp z)))
theorem P_worker {M : xMem} (hR : RelE M) (a0 : Int32) (a1 : Int32) {K : Int32 → xMem → Prop} (hK : ∀ r M1, (∀ K2 : Int32 → xMem → Prop, (∀ M2, RelE M2 → K2 r M2) → w_X9_worker M1 a0 a1 K2) → K r M1) : w_X8_worker M a0 a1 K := by
  obtain ⟨h, d, w, hg, f, nw, nd, hR⟩ := hR
  obtain ⟨hh, e5, hk⟩ := Rel_h hR
  obtain ⟨r1, r2, r3, r4, r5, r6, r7, r8, r9, r10, r11, r12, r13⟩ := id hR
  have hnw : nw ≤ 6 := r3.2.2.2.1
  have hc2 : M.1 h 2 = nI nw := r7.1.2.2.1
  have hthr : RelE (xset M 81 0 0) := ⟨h, d, w, hg, f, nw, nd, Rel_thr hR⟩
  have e20 : (xset M 81 0 0).1 81 20 = nI nw := (m_col _ _ _ (by omega)).trans r4.2.2.2.1
  unfold w_X8_worker
  rw [e5]
  refine u_isWorker hk hc2 (by omega) (fun hin => z_f ?_) (fun hin => z_t ?_)
  · refine u_rng 3 4 rfl (by omega) rfl (fun hin2 => ⟨fun _ => ?_, fun q => absurd q (by decide)⟩) (fun hin2 => ⟨fun q => absurd rfl q, fun _ => ?_⟩)
    · obtain ⟨i, hi, rfl⟩ := hin
      obtain ⟨k, hk2, rfl⟩ := hin2
      rw [e5]
      refine ⟨hk, vp_in_nI (by omega) (by omega), vp_in_nI (by omega) (by omega), ?_⟩
      rw [nI_clamp (by omega), nI_clamp (by omega)]
      refine hK _ _ (fun K2 h2 => ?_)
      unfold w_X9_worker
      intro M1 e1
      subst e1
      refine v_isWorker e20 (by omega) (fun _ => z_f ?_) (fun q => absurd ⟨i, hi, rfl⟩ q)
      refine v_rng 3 4 rfl (by omega) rfl (fun _ => z_f ?_) (fun q => absurd ⟨k, hk2, rfl⟩ q)
      have ei : (4 : Int32) * nI i + nI k = nI (4 * i + k) := by rw [show (4 : Int32) = nI 4 from rfl, pk_mul, nI_add]
      rw [ei]
      refine ⟨vp_in_nI (by omega) (by omega), ?_⟩
      rw [nI_clamp (by omega)]
      have ev := r7.2.1 i k hi hk2
      have ev' : M.1 (h + 4 + 1 + i) k = M.1 87 (4 * i + k) := by rw [show h + 4 + 1 + i = h + (5 + i) by omega]; exact ev
      rw [ev'] at h2
      exact h2 _ hthr
    · refine hK _ _ (fun K2 h2 => ?_)
      unfold w_X9_worker
      intro M1 e1
      subst e1
      refine v_isWorker e20 (by omega) (fun _ => z_f ?_) (fun q => absurd hin q)
      exact v_rng 3 4 rfl (by omega) rfl (fun q => absurd q hin2) (fun _ => z_t (h2 _ hthr))
  · refine hK _ _ (fun K2 h2 => ?_)
    unfold w_X9_worker
    intro M1 e1
    subst e1
    exact v_isWorker e20 (by omega) (fun q => absurd q hin) (fun _ => z_t (h2 _ hthr))
