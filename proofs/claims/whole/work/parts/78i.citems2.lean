/-! items of borders and of wind, read by the class -/
theorem u_itB {M : xMem} {n p d w hg R mx : Nat} {x : Nat → Int32} {i what : Int32} {post : Int32 → xMem → Prop} {r : xMem → Nat → Int32 → Prop} (hh : d = 35 ∨ d = 58) (hT : cTx M n x) (hp : p ≤ n) (e2 : M.1 1 2 = nI (tkE x n p)) (c0 : M.1 d 0 = nI w) (c1 : M.1 d 1 = nI hg) (hw : 1 ≤ w) (hN : 1 ≤ w * hg ∧ w * hg ≤ 48) (hk : (what = 0 ∧ mx = 3 ∧ R = d + 2) ∨ (¬ what = 0 ∧ mx = 9 ∧ R = d + 3)) (hok : al (ckB x n p w (w * hg) mx) 4 → ∀ M', cF M M' d → M'.1 1 2 = nI (ps x n p 5) → (∀ j, j ≠ R → d ≤ j → j < d + 20 → M'.1 j = M.1 j) → M'.1 R = upd (M.1 R) (2 * loN (tkV x n (ps x n p 1)) (tkV x n (ps x n p 2)) + if nbAl w (tkV x n (ps x n p 1)) (tkV x n (ps x n p 2)) = true then 1 else 0) (nI (tkV x n (ps x n p 3))) → r M' d (i + 1)) (hbad : ∀ st, fl x n p (ckB x n p w (w * hg) mx) 4 st → ∀ M', cF M M' d → post ((-10 : Int32) - nI st) M') : w_X5_readBorder M d what (fun z M' => b_X5_read_161 post r M' d i z) := by
  have kh : kd d = 2 := by rcases hh with rfl | rfl <;> decide
  have kh1 : kd (d + 1) = 0 := by rcases hh with rfl | rfl <;> decide
  have kR : kd R = 10 ∧ ln R = 96 := by
    rcases hk with ⟨-, -, rfl⟩ | ⟨-, -, rfl⟩ <;> rcases hh with rfl | rfl <;> decide
  have hR : R = d + 2 ∨ R = d + 3 := by rcases hk with q | q <;> omega
  have hmx : mx ≤ 9 := by rcases hk with q | q <;> omega
  have hps := ps_le (x := x) hp
  have k10 : kd (1 + 3) = 10 := by decide
  have l2 : ln (1 + 3) = 2 := by decide
  have z0 : (0 : Int32).toNatClampNeg = 0 := by decide
  have z1 : (1 : Int32).toNatClampNeg = 1 := by decide
  unfold w_X5_readBorder w_X2_yards
  rw [c0, c1]
  refine ⟨kh, ?_⟩
  refine u_rdN (lo := 0) (c := 0) rfl (yd1 hN.1) rfl (by omega) (by omega) hT (hps 1) e2 k10 (by omega) (by omega) (by omega) (fun t1 M5 k5 => z_nf ?_) (fun t1 M5 q q' q3 => z_nt (c161_bad q3 (hbad _ ⟨0, by omega, al_0, t1, rfl⟩ M5 (cF_1 q q'))))
  have a1 : al (ckB x n p w (w * hg) mx) 1 := al_S al_0 t1
  have f5 : cF M M5 d := cF_N k5 (Or.inl rfl)
  have hT5 := cTx_N hT k5 (by omega) (by omega)
  have g5 : M5.1 d = M.1 d := k5.1 d (by omega) (by omega)
  rw [g5, c0, c1]
  refine ⟨kh, ?_⟩
  refine u_rdN3 (lo := 0) (c := 1) rfl (yd1 hN.1) rfl (by omega) (by omega) hT5 (hps 2) k5.2.2.2 k10 (by omega) (by omega) (by omega) (fun t2 M10 k10' s10 => z_nf ?_) (fun t2 M10 q q' q3 => z_nt (c161_bad q3 (hbad _ ⟨1, by omega, a1, fun z => t2 z.1, rfl⟩ M10 (cF_tr f5 (cF_1 q q')))))
  have f10 := cF_tr f5 (cF_N k10' (Or.inl rfl))
  have hT10 := cTx_N hT5 k10' (by omega) (by omega)
  have g10 : M10.1 d = M.1 d := by rw [k10'.1 d (by omega) (by omega), g5]
  have v0 : M10.1 (1 + 3) (0 : Int32).toNatClampNeg = nI (tkV x n (ps x n p 1)) := by rw [z0, k10'.2.1, pk_un (by omega), k5.2.1, pk_us]
  have v1 : M10.1 (1 + 3) (1 : Int32).toNatClampNeg = nI (tkV x n (ps x n p 2)) := by rw [z1, k10'.2.1, pk_us]
  rw [v0, v1]
  have b1 := t1.2.2
  have b2 := t2.2.2
  refine u_borderOf kh (by rw [g10]; exact c0) (by rw [g10]; exact c1) hw hN.2 (fun a b ha hb ea eb hn => ?_) (fun no => ⟨fun _ => c161_bad s10 (hbad _ ⟨1, by omega, a1, fun z => no _ _ (by omega) (by omega) rfl rfl z.2, rfl⟩ M10 f10), fun q => absurd (by decide) q⟩)
  have ea' : tkV x n (ps x n p 1) = a := q_inj (by omega) (by omega) ea
  have eb' : tkV x n (ps x n p 2) = b := q_inj (by omega) (by omega) eb
  obtain ⟨l1, l2', l3⟩ := lo_lt ha hb
  have hz : (2 * loN a b + if nbAl w a b = true then 1 else 0) < 96 := by split <;> omega
  have a2 : al (ckB x n p w (w * hg) mx) 2 := al_S a1 ⟨t2, by rw [ea', eb']; exact hn⟩
  rw [ea', eb'] at hok
  refine ⟨fun q => absurd q (nI_pos (by omega)), fun _ => ?_⟩
  have last : ∀ mxI : Int32, mxI = nI mx → w_X5_readNumber M10 (0 : Int32) mxI R (nI (2 * loN a b + if nbAl w a b = true then 1 else 0)) (fun z19 M20 => ((z19 = 0) → (b_X5_read_161 post r M20 d i 0)) ∧ ((¬ z19 = 0) → (b_X5_read_161 post r M20 d i 1))) := fun mxI em => by
    refine u_rdN (lo := 0) (hi := mx) rfl em rfl (by omega) (by omega) hT10 (hps 3) k10'.2.2.2 kR.1 (by omega) (by omega) (by omega) (fun t3 M20 k20 => z_f ?_) (fun t3 M20 q q' q3 => z_t (c161_bad q3 (hbad _ ⟨2, by omega, a2, t3, rfl⟩ M20 (cF_tr f10 (cF_1 q q')))))
    have a3 : al (ckB x n p w (w * hg) mx) 3 := al_S a2 t3
    have f20 := cF_tr f10 (cF_N k20 (Or.inr (by omega)))
    have hT20 := cTx_N hT10 k20 (by omega) (by omega)
    refine c161_ok hT20 (hps 4) k20.2.2.2 (fun t4 M' q q' q2 => hok (al_S a3 t4) M' (cF_tr f20 (cF_1 q q')) q2 (fun j j1 j2 j3 => ?_) ?_) (fun t4 M' q q' => hbad _ ⟨3, by omega, a3, t4, rfl⟩ M' (cF_tr f20 (cF_1 q q')))
    · rw [q j (by omega), k20.1 j (by omega) j1, k10'.1 j (by omega) (by omega), k5.1 j (by omega) (by omega)]
    · rw [q R (by omega), k20.2.1, k10'.1 R (by omega) (by omega), k5.1 R (by omega) (by omega)]
  unfold w_X8_mostOf w_X0_rowOf
  rcases hk with ⟨z, em, er⟩ | ⟨z, em, er⟩
  · rw [er] at last
    exact ⟨fun q => absurd z q, fun _ => ⟨kh1, fun q => absurd z q, fun _ => last 3 (by rw [em]; rfl)⟩⟩
  · rw [er] at last
    exact ⟨fun _ => ⟨kh1, fun _ => last 9 (by rw [em]; rfl), fun q => absurd q z⟩, fun q => absurd q z⟩
/-- wind: which of the two, and how much, by the word -/
def wdK (c : Nat) : Nat := if c = 8 ∨ c = 9 then 0 else 1
def wdV (c v : Nat) : Int32 := if c = 8 ∨ c = 10 then nI v else -(nI v)
theorem u_itV {M : xMem} {n p d : Nat} {x : Nat → Int32} {i : Int32} {post : Int32 → xMem → Prop} {r : xMem → Nat → Int32 → Prop} (hh : d = 35 ∨ d = 58) (hT : cTx M n x) (hp : p ≤ n) (e2 : M.1 1 2 = nI (tkE x n p)) (hok : al (ckV x n p) 3 → ∀ M', cF M M' d → M'.1 1 2 = nI (ps x n p 4) → (∀ j, j ≠ d + 1 → d ≤ j → j < d + 20 → M'.1 j = M.1 j) → M'.1 (d + 1) = upd (M.1 (d + 1)) (2 + wdK (tkC x n (ps x n p 1))) (wdV (tkC x n (ps x n p 1)) (tkV x n (ps x n p 2))) → r M' d (i + 1)) (hbad : ∀ st, fl x n p (ckV x n p) 3 st → ∀ M', cF M M' d → post ((-10 : Int32) - nI st) M') : w_X5_readWind M (d + 1) (fun z M' => b_X5_read_161 post r M' d i z) := by
  have kh1 : kd (d + 1) = 0 := by rcases hh with rfl | rfl <;> decide
  have hps := ps_le (x := x) hp
  have k10 : kd (1 + 3) = 10 := by decide
  have l2 : ln (1 + 3) = 2 := by decide
  have z0 : (0 : Int32).toNatClampNeg = 0 := by decide
  have h13 := tkC_le (x := x) (n := n) (p := ps x n p 1)
  unfold w_X5_readWind
  refine u_next hT (hps 1) e2 (fun M2 hk => ?_)
  obtain ⟨k1, k2, k3, k4, k5, k6⟩ := hk
  have f2 : cF M M2 d := cF_1 k1 k2
  have hT2 := cTx_F hT (by omega) f2
  rw [k5]
  have ok35 : (8 ≤ tkC x n (ps x n p 1) ∧ tkC x n (ps x n p 1) ≤ 11) → b_X5_readWind_35 (fun z M' => b_X5_read_161 post r M' d i z) M2 (d + 1) (nI (tkC x n (ps x n p 1))) := fun hc => by
    have a1 : al (ckV x n p) 1 := al_S al_0 hc
    unfold b_X5_readWind_35
    refine u_rdN (lo := 0) (hi := 2) (c := 0) rfl rfl rfl (by omega) (by omega) hT2 (hps 2) k3 k10 (by omega) (by omega) (by omega) (fun t2 M4 k4' => z_nf ?_) (fun t2 M4 q q' q3 => z_nt (c161_bad q3 (hbad _ ⟨1, by omega, a1, t2, rfl⟩ M4 (cF_tr f2 (cF_1 q q')))))
    have a2 : al (ckV x n p) 2 := al_S a1 t2
    have f4 := cF_tr f2 (cF_N k4' (Or.inl rfl))
    have hT4 := cTx_N hT2 k4' (by omega) (by omega)
    have v0 : M4.1 (1 + 3) (0 : Int32).toNatClampNeg = nI (tkV x n (ps x n p 2)) := by rw [z0, k4'.2.1, pk_us]
    have fin : ∀ M6, M6 = xset M4 (d + 1) (2 + wdK (tkC x n (ps x n p 1))) (wdV (tkC x n (ps x n p 1)) (tkV x n (ps x n p 2))) → b_X5_read_161 post r M6 d i 1 := fun M6 e6 => by
      have f6 : cF M M6 d := cF_tr f4 ⟨fun j _ _ g => by rw [e6, m_row _ _ _ (by omega)], by rw [e6, m_snd]⟩
      have hT6 := cTx_F hT (by omega) f6
      refine c161_ok hT6 (hps 3) (by rw [e6, m_row _ _ _ (by omega)]; exact k4'.2.2.2) (fun t3 M' q q' q2 => hok (al_S a2 t3) M' (cF_tr f6 (cF_1 q q')) q2 (fun j j1 j2 j3 => ?_) ?_) (fun t3 M' q q' => hbad _ ⟨2, by omega, a2, t3, rfl⟩ M' (cF_tr f6 (cF_1 q q')))
      · rw [q j (by omega), e6, m_row _ _ _ j1, k4'.1 j (by omega) (by omega), k1 j (by omega)]
      · rw [q _ (by omega), e6, m_upd, k4'.1 _ (by omega) (by omega), k1 _ (by omega)]
    unfold b_X5_readWind_63 b_X5_readWind_79 b_X5_readWind_92
    rw [v0]
    rcases (show tkC x n (ps x n p 1) = 8 ∨ tkC x n (ps x n p 1) = 9 ∨ tkC x n (ps x n p 1) = 10 ∨ tkC x n (ps x n p 1) = 11 by omega) with e | e | e | e
    · rw [e] at fin ⊢
      exact ⟨fun _ => ⟨fun _ => ⟨kh1, fun M6 e6 => fin M6 e6⟩, fun z => absurd rfl z⟩, fun z => absurd rfl z⟩
    · rw [e] at fin ⊢
      exact ⟨fun z => absurd z (by decide), fun _ => ⟨fun _ => ⟨fun z => absurd z (by decide), fun _ => ⟨fun z => absurd rfl z, fun _ => ⟨kh1, fun M6 e6 => fin M6 e6⟩⟩⟩, fun z => absurd z (by decide)⟩⟩
    · rw [e] at fin ⊢
      exact ⟨fun z => absurd z (by decide), fun _ => ⟨fun z => absurd rfl z, fun _ => ⟨fun z => absurd z (by decide), fun _ => ⟨fun _ => ⟨kh1, fun M6 e6 => fin M6 e6⟩, fun z => absurd z (by decide)⟩⟩⟩⟩
    · rw [e] at fin ⊢
      exact ⟨fun z => absurd z (by decide), fun _ => ⟨fun _ => ⟨fun z => absurd z (by decide), fun _ => ⟨fun _ => ⟨kh1, fun M6 e6 => fin M6 e6⟩, fun z => absurd z (by decide)⟩⟩, fun z => absurd z (by decide)⟩⟩
  have bad : ¬ (8 ≤ tkC x n (ps x n p 1) ∧ tkC x n (ps x n p 1) ≤ 11) → b_X5_read_161 post r M2 d i 0 := fun hc => c161_bad k4 (hbad _ ⟨0, by omega, al_0, hc, rfl⟩ M2 f2)
  have cl : ∀ m : Nat, m < 100 → nI (tkC x n (ps x n p 1)) = nI m → tkC x n (ps x n p 1) = m := fun m hm q => q_inj (by omega) (by omega) q
  refine ⟨fun e => ok35 (by have := cl 8 (by omega) e; omega), fun n8 => ⟨fun e => ok35 (by have := cl 9 (by omega) e; omega), fun n9 => ⟨fun e => ok35 (by have := cl 10 (by omega) e; omega), fun n10 => ⟨fun e => ok35 (by have := cl 11 (by omega) e; omega), fun n11 => bad (fun hc => ?_)⟩⟩⟩⟩
  rcases (show tkC x n (ps x n p 1) = 8 ∨ tkC x n (ps x n p 1) = 9 ∨ tkC x n (ps x n p 1) = 10 ∨ tkC x n (ps x n p 1) = 11 by omega) with e | e | e | e
  · exact n8 (by rw [e]; rfl)
  · exact n9 (by rw [e]; rfl)
  · exact n10 (by rw [e]; rfl)
  · exact n11 (by rw [e]; rfl)
