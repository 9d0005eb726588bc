/-! counts -/
def sumI (g : Nat → Int32) : Nat → Int32
  | 0 => 0
  | n + 1 => sumI g n + g n
theorem sumI_add (g : Nat → Int32) (m : Nat) : ∀ n, sumI g (m + n) = sumI g m + sumI (fun a => g (m + a)) n
  | 0 => (Int32.add_zero _).symm
  | n + 1 => by
    show sumI g (m + n) + g (m + n) = sumI g m + (sumI (fun a => g (m + a)) n + g (m + n))
    rw [sumI_add g m n, Int32.add_assoc]
theorem sumI_two {x s : Nat → Int32} : ∀ n, (∀ a, a < n → x (2 * a) = s a ∧ x (2 * a + 1) = s (48 + a)) → sumI x (2 * n) = sumI s n + sumI (fun a => s (48 + a)) n
  | 0, _ => rfl
  | n + 1, h => by
    have e := sumI_two n (fun a ha => h a (Nat.lt_succ_of_lt ha))
    obtain ⟨h1, h2⟩ := h n (Nat.lt_succ_self n)
    show sumI x (2 * n) + x (2 * n) + x (2 * n + 1) = (sumI s n + s n) + (sumI (fun a => s (48 + a)) n + s (48 + n))
    rw [e, h1, h2, Int32.add_assoc, Int32.add_assoc, Int32.add_assoc]
    congr 1
    rw [← Int32.add_assoc, ← Int32.add_assoc, Int32.add_comm (sumI (fun a => s (48 + a)) n) (s n)]
theorem cnt4 {A : Type} {b : (xMem → A → Int32 → Int32 → Prop) → xMem → A → Int32 → Int32 → Prop} {M : xMem} {p : A} (N : Nat) (hN : N < 100000) (g : Nat → Int32) (g0 : g 0 = 0) (hs : ∀ (r : xMem → A → Int32 → Int32 → Prop) (k : Nat), k ≤ N → (k < N → r M p (g (k + 1)) (nI (k + 1))) → b r M p (g k) (nI k)) : xlp4 b M p 0 0 := by
  refine xlp4_of (I := fun M' p' x c => M' = M ∧ p' = p ∧ ∃ k, k ≤ N ∧ x = g k ∧ c = nI k) (mu := fun _ _ _ c => N - c.toNatClampNeg) ?_ ⟨rfl, rfl, 0, Nat.zero_le _, g0.symm, rfl⟩
  intro r M' p' x c hI hr
  obtain ⟨rfl, rfl, k, hk, rfl, rfl⟩ := hI
  refine hs r k hk (fun hk2 => hr _ _ _ _ ⟨rfl, rfl, k + 1, hk2, rfl, rfl⟩ ?_)
  show N - (nI (k + 1)).toNatClampNeg < N - (nI k).toNatClampNeg
  rw [nI_clamp (by omega), nI_clamp (by omega)]
  omega
theorem c_all {M : xMem} {h : Nat} {p : Int32} {post : Int32 → xMem → Prop} (hh : h = 35 ∨ h = 58) (hK : post (sumI (M.1 (if p = 0 then h + 2 else h + 3)) 96) M) : w_X0_all M (h + 1) p post := by
  have kh : kd (h + 1) = 0 := by rcases hh with rfl | rfl <;> decide
  have lp : ∀ R, (R = h + 2 ∨ R = h + 3) → post (sumI (M.1 R) 96) M → xlp4 (b_X0_all_11 post (h + 1)) M R 0 0 := by
    intro R hR hq
    have k1 : kd R = 10 := by rcases hh with rfl | rfl <;> rcases hR with rfl | rfl <;> decide
    have k2 : ln R = 96 := by rcases hh with rfl | rfl <;> rcases hR with rfl | rfl <;> decide
    refine cnt4 96 (by omega) (sumI (M.1 R)) rfl (fun r k hk hr => ?_)
    unfold b_X0_all_11
    refine ⟨fun q => ?_, fun q => ?_⟩
    · have hl : 96 ≤ k := (li_le (n := 96) (by omega) (by decide)).mp q
      have e : k = 96 := by omega
      subst e
      exact hq
    · have hl : k < 96 := Nat.lt_of_not_le (fun q2 => q ((li_le (by omega) (by decide)).mpr q2))
      refine ⟨k1, by rw [k2]; exact vp_in_nI hl (by omega), ?_⟩
      rw [nI_clamp (by omega), nI_1]
      exact hr hl
  unfold w_X0_all w_X0_rowOf
  refine ⟨kh, kh, fun q => ?_, fun q => ?_⟩
  · rw [if_neg q] at hK
    exact lp (h + 3) (Or.inr rfl) hK
  · rw [if_pos q] at hK
    exact lp (h + 2) (Or.inl rfl) hK
def cntG (M : xMem) (p : Int32) (n : Nat) : Int32 := if p = 6 then sumI (M.1 83) n else if p = 7 then sumI (fun a => M.1 83 (96 + a)) n else 0
theorem r_count {M : xMem} {p : Int32} {post : Int32 → xMem → Prop} (hK : (p = 0 → post (M.1 81 9) M) ∧ (p = 1 → post (M.1 81 10) M) ∧ (p = 2 → post (M.1 81 20) M) ∧ (p = 3 → post (M.1 81 21) M) ∧ (p = 4 → post (M.1 83 194) M) ∧ (p = 5 → post (M.1 81 3) M) ∧ (p = 6 ∨ p = 7 → post (cntG M p 96) M) ∧ (¬ p = 0 → ¬ p = 1 → ¬ p = 2 → ¬ p = 3 → ¬ p = 4 → ¬ p = 5 → ¬ p = 6 → ¬ p = 7 → post (-1) M)) : xlp4 (b_X9_count_9 post) M p 0 0 := by
  have e194 : (194 : Int32).toNatClampNeg = 194 := by decide
  obtain ⟨k0, k1, k2, k3, k4, k5, k6, k7⟩ := hK
  refine cnt4 96 (by omega) (cntG M p) (by unfold cntG; split <;> (try split) <;> rfl) (fun r k hk hr => ?_)
  unfold b_X9_count_9
  refine ⟨fun q => ?_, fun q => ?_⟩
  · have hl : 96 ≤ k := (li_le (n := 96) (by omega) (by decide)).mp q
    have e : k = 96 := by omega
    subst e
    rw [e194]
    refine ⟨fun n0 => ⟨fun n1 => ⟨fun n2 => ⟨fun n3 => ⟨fun n4 => ⟨fun n5 => ?_, k5⟩, k4⟩, k3⟩, k2⟩, k1⟩, k0⟩
    refine u_in (fun h1 h2 => ⟨fun q => absurd q (by decide), fun _ => ?_⟩) (fun q => ⟨fun _ => ?_, fun q2 => absurd rfl q2⟩)
    · refine k6 ?_
      rw [q_le] at h1 h2
      have h1' : 6 ≤ p.toInt := h1
      have h2' : p.toInt ≤ 7 := h2
      rcases (show p.toInt = 6 ∨ p.toInt = 7 by omega) with e | e
      · exact Or.inl ((q_eq _ _).mpr e)
      · exact Or.inr ((q_eq _ _).mpr e)
    · exact k7 n0 n1 n2 n3 n4 n5 (fun e => q (by rw [e]; decide)) (fun e => q (by rw [e]; decide))
  · have hl : k < 96 := Nat.lt_of_not_le (fun q2 => q ((li_le (by omega) (by decide)).mpr q2))
    have a0 : (0 : Int32) + nI k = nI k := Int32.zero_add _
    have a96 : (96 : Int32) + nI k = nI (96 + k) := nI_add 96 k
    refine ⟨fun n6 => ⟨fun n7 => ?_, fun e => ⟨by rw [a96]; exact vp_in_nI (by omega) (by omega), ?_⟩⟩, fun e => ⟨by rw [a0]; exact vp_in_nI (by omega) (by omega), ?_⟩⟩
    · unfold b_X9_count_52
      rw [nI_1]
      have h1 := hr hl
      unfold cntG at h1 ⊢
      rw [if_neg n6, if_neg n7] at h1 ⊢
      exact h1
    · unfold b_X9_count_52
      rw [nI_1, a96, nI_clamp (by omega)]
      have n6 : ¬ p = 6 := by rw [e]; decide
      have h1 := hr hl
      unfold cntG at h1 ⊢
      rw [if_neg n6, if_pos e] at h1 ⊢
      exact h1
    · unfold b_X9_count_52
      rw [nI_1, a0, nI_clamp (by omega)]
      have h1 := hr hl
      unfold cntG at h1 ⊢
      rw [if_pos e] at h1 ⊢
      exact h1
theorem P_count {M : xMem} (hR : RelE M) (a0 : Int32) {K : Int32 → xMem → Prop} (hK : ∀ r M1, (∀ K2 : Int32 → xMem → Prop, (∀ M2, RelE M2 → K2 r M2) → w_X9_count M1 a0 K2) → K r M1) : w_X8_count M a0 K := by
  obtain ⟨h, d, w, hg, f, nw, nd, hR⟩ := hR
  obtain ⟨hh, e5, hk⟩ := Rel_h hR
  obtain ⟨r1, r2, r3, r4, r5, r6, r7, r8, r9, r10, r11, r12, r13⟩ := id hR
  have hthr : RelE (xset M 81 0 0) := ⟨h, d, w, hg, f, nw, nd, Rel_thr hR⟩
  have c81 : ∀ k, k ≠ 0 → (xset M 81 0 0).1 81 k = M.1 81 k := fun k q => m_col _ _ _ q
  have c83 : (xset M 81 0 0).1 83 = M.1 83 := m_row _ _ _ (by omega)
  have go : ∀ r : Int32, (∀ post : Int32 → xMem → Prop, (post r (xset M 81 0 0)) → xlp4 (b_X9_count_9 post) (xset M 81 0 0) a0 0 0) → K r M := by
    intro r hr
    refine hK _ _ (fun K2 h2 => ?_)
    unfold w_X9_count
    intro M1 e1
    subst e1
    exact hr K2 (h2 _ hthr)
  unfold w_X8_count
  rw [e5]
  have nn : ∀ {a b : Int32} {A : Prop}, a0 = a → a ≠ b → a0 = b → A := fun e ne e2 => absurd (e.symm.trans e2) ne
  refine ⟨fun e => ⟨hk, go _ (fun post hp => r_count ⟨fun _ => ?_, nn e (by decide), nn e (by decide), nn e (by decide), nn e (by decide), nn e (by decide), fun q => q.elim (nn e (by decide)) (nn e (by decide)), fun q => absurd e q⟩)⟩, ?_⟩
  · rw [c81 9 (by omega), r4.1, ← r7.1.1]
    exact hp
  refine ⟨fun e => ⟨hk, go _ (fun post hp => r_count ⟨nn e (by decide), fun _ => ?_, nn e (by decide), nn e (by decide), nn e (by decide), nn e (by decide), fun q => q.elim (nn e (by decide)) (nn e (by decide)), fun _ q => absurd e q⟩)⟩, ?_⟩
  · rw [c81 10 (by omega), r4.2.1, ← r7.1.2.1]
    exact hp
  refine ⟨fun e => ⟨hk, go _ (fun post hp => r_count ⟨nn e (by decide), nn e (by decide), fun _ => ?_, nn e (by decide), nn e (by decide), nn e (by decide), fun q => q.elim (nn e (by decide)) (nn e (by decide)), fun _ _ q => absurd e q⟩)⟩, ?_⟩
  · rw [c81 20 (by omega), r4.2.2.2.1, ← r7.1.2.2.1]
    exact hp
  refine ⟨fun e => ⟨hk, go _ (fun post hp => r_count ⟨nn e (by decide), nn e (by decide), nn e (by decide), fun _ => ?_, nn e (by decide), nn e (by decide), fun q => q.elim (nn e (by decide)) (nn e (by decide)), fun _ _ _ q => absurd e q⟩)⟩, ?_⟩
  · rw [c81 21 (by omega), r4.2.2.2.2.1, ← r7.1.2.2.2]
    exact hp
  refine ⟨fun e => go _ (fun post hp => r_count ⟨nn e (by decide), nn e (by decide), nn e (by decide), nn e (by decide), fun _ => ?_, nn e (by decide), fun q => q.elim (nn e (by decide)) (nn e (by decide)), fun _ _ _ _ q => absurd e q⟩), ?_⟩
  · obtain ⟨n, n1, n2, n3, n4⟩ := id r9
    rw [c83, n3, ← n2]
    exact hp
  refine ⟨fun e => go _ (fun post hp => r_count ⟨nn e (by decide), nn e (by decide), nn e (by decide), nn e (by decide), nn e (by decide), fun _ => ?_, fun q => q.elim (nn e (by decide)) (nn e (by decide)), fun _ _ _ _ _ q => absurd e q⟩), ?_⟩
  · obtain ⟨n, n1, n2, n3, n4⟩ := id r5
    rw [c81 3 (by omega), n3, ← n2]
    exact hp
  refine ⟨fun e => ⟨hk, c_all hh (go _ (fun post hp => r_count ⟨nn e (by decide), nn e (by decide), nn e (by decide), nn e (by decide), nn e (by decide), nn e (by decide), fun _ => ?_, fun _ _ _ _ _ _ q => absurd e q⟩))⟩, ?_⟩
  · rw [if_pos rfl] at hp
    unfold cntG
    rw [if_pos e, c83, sumI_add _ 48 48, ← sumI_two 48 r8.1]
    exact hp
  refine ⟨fun e => ⟨hk, c_all hh (go _ (fun post hp => r_count ⟨nn e (by decide), nn e (by decide), nn e (by decide), nn e (by decide), nn e (by decide), nn e (by decide), fun _ => ?_, fun _ _ _ _ _ _ _ q => absurd e q⟩))⟩, ?_⟩
  · rw [if_neg (by decide)] at hp
    unfold cntG
    have n6 : ¬ a0 = 6 := by rw [e]; decide
    rw [if_neg n6, if_pos e, c83, sumI_add _ 48 48, ← sumI_two (x := M.1 (h + 3)) (s := fun a => M.1 83 (96 + a)) 48 (fun a ha => ⟨(r8.2.1 a ha).1, by
      have q := (r8.2.1 a ha).2
      show _ = M.1 83 (96 + (48 + a))
      rw [q, show 96 + (48 + a) = 144 + a by omega]⟩)]
    exact hp
  exact fun n0 n1 n2 n3 n4 n5 n6 n7 => go _ (fun post hp => r_count ⟨fun q => absurd q n0, fun q => absurd q n1, fun q => absurd q n2, fun q => absurd q n3, fun q => absurd q n4, fun q => absurd q n5, fun q => q.elim (fun q => absurd q n6) (fun q => absurd q n7), fun _ _ _ _ _ _ _ _ => hp⟩)
