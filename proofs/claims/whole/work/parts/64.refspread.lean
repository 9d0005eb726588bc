/-! the reference's spread gives the least closed table -/
theorem lessI_pos (f : Nat) (x : Int) : 1 ≤ lessI f x := by
  unfold lessI
  omega
theorem passN_p (w f : Nat) (s : Nat → Int32) : sp_p (passN w f s) := by
  constructor
  · intro a b v v' h
    unfold passN
    exact Nat.sub_le_sub_right (Nat.div_le_div_right (Nat.sub_le_sub_right h _)) _
  · intro a b v
    unfold passN
    refine Nat.le_trans (Nat.sub_le _ _) (Nat.le_trans (Nat.div_le_self _ _) ?_)
    exact Nat.sub_le_sub_left (lessI_pos _ _) _
def sumT (T : Nat → Nat) : Nat → Nat
  | 0 => 0
  | n + 1 => sumT T n + T n
theorem sumT_le {T T' : Nat → Nat} : ∀ n, (∀ y, y < n → T y ≤ T' y) → sumT T n ≤ sumT T' n
  | 0, _ => Nat.le_refl _
  | n + 1, h => Nat.add_le_add (sumT_le n (fun y hy => h y (Nat.lt_succ_of_lt hy))) (h n (Nat.lt_succ_self n))
theorem sumT_lt {T T' : Nat → Nat} : ∀ n, (∀ y, y < n → T y ≤ T' y) → (∃ y, y < n ∧ T y < T' y) → sumT T n < sumT T' n
  | 0, _, ⟨y, hy, _⟩ => absurd hy (Nat.not_lt_zero _)
  | n + 1, h, ⟨y, hy, hl⟩ => by
    by_cases e : y = n
    · subst e
      exact Nat.add_lt_add_of_le_of_lt (sumT_le y (fun x hx => h x (Nat.lt_succ_of_lt hx))) hl
    · exact Nat.add_lt_add_of_lt_of_le (sumT_lt n (fun x hx => h x (Nat.lt_succ_of_lt hx)) ⟨y, by omega, hl⟩) (h n (Nat.lt_succ_self n))
theorem sumT_bd {T : Nat → Nat} {z : Nat} : ∀ n, (∀ y, y < n → T y ≤ z) → sumT T n ≤ n * z
  | 0, _ => Nat.zero_le _
  | n + 1, h => by
    rw [Nat.succ_mul]
    exact Nat.add_le_add (sumT_bd n (fun y hy => h y (Nat.lt_succ_of_lt hy))) (h n (Nat.lt_succ_self n))
theorem sumT_eq {T T' : Nat → Nat} : ∀ n, (∀ y, y < n → T y = T' y) → sumT T n = sumT T' n
  | 0, _ => rfl
  | n + 1, h => by
    show sumT T n + T n = sumT T' n + T' n
    rw [sumT_eq n (fun y hy => h y (Nat.lt_succ_of_lt hy)), h n (Nat.lt_succ_self n)]
def rsT (R o : Nat) (M : xMem) (y : Nat) : Nat := (M.1 R (o + y)).toNatClampNeg
def rSS (R o N : Nat) (E : Nat → Nat → Prop) (p : Nat → Nat → Nat → Nat) (src z : Nat) (M0 M : xMem) : Prop := (∀ j, j ≠ R → M.1 j = M0.1 j) ∧ M.2 = M0.2 ∧ (∀ k, (k < o ∨ o + N ≤ k) → M.1 R k = M0.1 R k) ∧ (∀ y, y < N → M.1 R (o + y) = nI (rsT R o M y)) ∧ sp_be N E p src z (rsT R o M) ∧ z ≤ rsT R o M src
theorem rSS_top {R o N : Nat} {E : Nat → Nat → Prop} {p : Nat → Nat → Nat → Nat} {src z : Nat} {M0 M : xMem} (hp : sp_p p) (h : rSS R o N E p src z M0 M) {y : Nat} (hy : y < N) : rsT R o M y ≤ z := h.2.2.2.2.1 _ (sp_const hp) y hy
theorem rsT_set {R o b v : Nat} {M : xMem} (hv : v < 1000000) (y : Nat) : rsT R o (xset M R (o + b) (nI v)) y = if y = b then v else rsT R o M y := by
  unfold rsT
  by_cases e : y = b
  · subst e
    rw [m_same, if_pos rfl, nI_clamp (by omega)]
  · rw [m_col _ _ _ (by omega), if_neg e]
theorem rSS_set {R o N : Nat} {E : Nat → Nat → Prop} {p : Nat → Nat → Nat → Nat} {src z : Nat} {M0 M : xMem} {a b : Nat} (hp : sp_p p) (hz : z < 1000) (h : rSS R o N E p src z M0 M) (ha : a < N) (hb : b < N) (he : E a b) (hg : rsT R o M b ≤ p a b (rsT R o M a)) : rSS R o N E p src z M0 (xset M R (o + b) (nI (p a b (rsT R o M a)))) := by
  have hs : p a b (rsT R o M a) < 1000000 := by
    have h1 := hp.2 a b (rsT R o M a)
    have h2 := rSS_top hp h ha
    omega
  obtain ⟨h1, h2, h3, h4, h5, h6⟩ := h
  refine ⟨fun j hj => ?_, h2, fun k hk => ?_, fun y hy => ?_, ?_, ?_⟩
  · rw [m_row _ _ _ hj]
    exact h1 j hj
  · rw [m_col _ _ _ (by omega)]
    exact h3 k hk
  · rw [rsT_set hs]
    by_cases e : y = b
    · subst e
      rw [m_same, if_pos rfl]
    · rw [m_col _ _ _ (by omega), if_neg e]
      exact h4 y hy
  · refine sp_beS hp h5 ha hb he ?_ (fun y hy hne => ?_)
    · rw [rsT_set hs, if_pos rfl]
    · rw [rsT_set hs, if_neg hne]
  · rw [rsT_set hs]
    by_cases e : src = b
    · subst e
      rw [if_pos rfl]
      exact Nat.le_trans h6 hg
    · rw [if_neg e]
      exact h6
/-- one round's state, against where the round began -/
def rRI (R o N : Nat) (E : Nat → Nat → Prop) (p : Nat → Nat → Nat → Nat) (Mr M : xMem) (fl : Int32) (a b : Nat) : Prop := (∀ y, y < N → rsT R o Mr y ≤ rsT R o M y) ∧ ((fl = 0 ∧ (∀ y, y < N → rsT R o M y = rsT R o Mr y) ∧ ∀ a' b', a' < N → b' < N → (a' < a ∨ a' = a ∧ b' < b) → E a' b' → p a' b' (rsT R o Mr a') ≤ rsT R o Mr b') ∨ (fl = 1 ∧ sumT (rsT R o Mr) N < sumT (rsT R o M) N))
theorem rRI_skip {R o N : Nat} {E : Nat → Nat → Prop} {p : Nat → Nat → Nat → Nat} {Mr M : xMem} {fl : Int32} {a b : Nat} (h : rRI R o N E p Mr M fl a b) (hs : a < N → b < N → E a b → p a b (rsT R o M a) ≤ rsT R o M b) : rRI R o N E p Mr M fl a (b + 1) := by
  obtain ⟨h1, h2⟩ := h
  refine ⟨h1, h2.imp (fun ⟨f0, e, d⟩ => ⟨f0, e, fun a' b' ha hb hl he => ?_⟩) id⟩
  by_cases q : a' = a ∧ b' = b
  · obtain ⟨rfl, rfl⟩ := q
    have := hs ha hb he
    rw [e a' ha, e b' hb] at this
    exact this
  · exact d a' b' ha hb (by omega) he
theorem rRI_set {R o N : Nat} {E : Nat → Nat → Prop} {p : Nat → Nat → Nat → Nat} {Mr M : xMem} {fl : Int32} {a b v : Nat} (hv : v < 1000000) (hb : b < N) (h : rRI R o N E p Mr M fl a b) (hs : rsT R o M b < v) : rRI R o N E p Mr (xset M R (o + b) (nI v)) 1 a (b + 1) := by
  obtain ⟨h1, h2⟩ := h
  have up : ∀ y, y < N → rsT R o M y ≤ rsT R o (xset M R (o + b) (nI v)) y := fun y hy => by
    rw [rsT_set hv]
    by_cases e : y = b
    · subst e
      rw [if_pos rfl]
      omega
    · rw [if_neg e]
      exact Nat.le_refl _
  have st : sumT (rsT R o M) N < sumT (rsT R o (xset M R (o + b) (nI v))) N := sumT_lt N up ⟨b, hb, by rw [rsT_set hv, if_pos rfl]; exact hs⟩
  refine ⟨fun y hy => Nat.le_trans (h1 y hy) (up y hy), Or.inr ⟨rfl, Nat.lt_of_le_of_lt (sumT_le N h1) st⟩⟩
theorem v_rounds {M0 M : xMem} {w hg f o src z : Nat} {post : xMem → Prop} (e9 : M0.1 81 9 = nI w) (e10 : M0.1 81 10 = nI hg) (e11 : M0.1 81 11 = nI f) (hS : rS (M0.1 83)) (hw : 1 ≤ w) (hw2 : w ≤ 8) (hf : f < 10) (hn : w * hg ≤ 48) (ho : o + 48 ≤ 336) (hz : z < 1000) (h0 : rSS 89 o (w * hg) (nbE w) (passN w f (M0.1 83)) src z M0 M) (hK : ∀ M', rSS 89 o (w * hg) (nbE w) (passN w f (M0.1 83)) src z M0 M' → sp_L (w * hg) (nbE w) (passN w f (M0.1 83)) src z (rsT 89 o M') → post M') : xlp3 (b_X9_spreads_53 post) M (nI o) 1 := by
  have hp := passN_p w f (M0.1 83)
  refine xlp3_of (I := fun M c fl => c = nI o ∧ rSS 89 o (w * hg) (nbE w) (passN w f (M0.1 83)) src z M0 M ∧ ((fl = 0 ∧ sp_cl (w * hg) (nbE w) (passN w f (M0.1 83)) src z (rsT 89 o M)) ∨ fl = 1)) (mu := fun M _ fl => 2 * (w * hg * z - sumT (rsT 89 o M) (w * hg)) + (if fl = 0 then 0 else 1)) ?_ ⟨rfl, h0, Or.inr rfl⟩
  intro r53 Mr c fl hI hr53
  obtain ⟨rfl, hR, hfl⟩ := hI
  unfold b_X9_spreads_53
  rcases hfl with ⟨rfl, hc⟩ | rfl
  · exact ⟨fun _ => hK Mr hR ⟨hc, hR.2.2.2.2.1⟩, fun q => absurd rfl q⟩
  · refine ⟨fun q => absurd q (by decide), fun _ => ?_⟩
    have nN : ∀ M : xMem, (∀ j, j ≠ 89 → M.1 j = M0.1 j) → M.1 81 9 * M.1 81 10 = nI (w * hg) := fun M h => by rw [h 81 (by omega), e9, e10, pk_mul]
    refine xlp4_of (I := fun M c fl q => c = nI o ∧ rSS 89 o (w * hg) (nbE w) (passN w f (M0.1 83)) src z M0 M ∧ ∃ a, a ≤ w * hg ∧ q = nI a ∧ rRI 89 o (w * hg) (nbE w) (passN w f (M0.1 83)) Mr M fl a 0) (mu := fun _ _ _ q => w * hg - q.toNatClampNeg) ?_ ⟨rfl, hR, 0, Nat.zero_le _, rfl, fun _ _ => Nat.le_refl _, Or.inl ⟨rfl, fun _ _ => rfl, fun a' b' ha hb hl => absurd hl (by omega)⟩⟩
    intro r64 M1 c fl q hI hr64
    obtain ⟨rfl, h1, a, ha, rfl, hRI⟩ := hI
    unfold b_X9_spreads_64
    rw [nN M1 h1.1]
    refine ⟨fun q => ?_, fun q => ?_⟩
    · have e : a = w * hg := Nat.le_antisymm ha ((nI_cond (by omega) (by omega)).mp q)
      have top : ∀ M, rSS 89 o (w * hg) (nbE w) (passN w f (M0.1 83)) src z M0 M → sumT (rsT 89 o M) (w * hg) ≤ w * hg * z := fun M h => sumT_bd _ (fun y hy => rSS_top hp h hy)
      have t1 := top M1 h1
      have tr := top Mr hR
      rcases hRI.2 with ⟨rfl, eq, cl⟩ | ⟨rfl, lt⟩
      · refine hr53 M1 _ 0 ⟨rfl, h1, Or.inl ⟨rfl, h1.2.2.2.2.2, fun a' b' ha' hb' he => ?_⟩⟩ ?_
        · rw [eq a' ha', eq b' hb']
          exact cl a' b' ha' hb' (Or.inl (by omega)) he
        · have es := sumT_eq (w * hg) eq
          show 2 * (w * hg * z - sumT (rsT 89 o M1) (w * hg)) + (if (0 : Int32) = 0 then 0 else 1) < 2 * (w * hg * z - sumT (rsT 89 o Mr) (w * hg)) + (if (1 : Int32) = 0 then 0 else 1)
          rw [es, if_pos rfl, if_neg (by decide)]
          omega
      · refine hr53 M1 _ 1 ⟨rfl, h1, Or.inr rfl⟩ ?_
        show 2 * (w * hg * z - sumT (rsT 89 o M1) (w * hg)) + (if (1 : Int32) = 0 then 0 else 1) < 2 * (w * hg * z - sumT (rsT 89 o Mr) (w * hg)) + (if (1 : Int32) = 0 then 0 else 1)
        omega
    · have hl : a < w * hg := Nat.lt_of_not_le (fun q2 => q ((nI_cond (by omega) (by omega)).mpr q2))
      refine xlp5_of (I := fun M c fl q q2 => c = nI o ∧ q = nI a ∧ rSS 89 o (w * hg) (nbE w) (passN w f (M0.1 83)) src z M0 M ∧ ∃ b, b ≤ w * hg ∧ q2 = nI b ∧ rRI 89 o (w * hg) (nbE w) (passN w f (M0.1 83)) Mr M fl a b) (mu := fun _ _ _ _ q => w * hg - q.toNatClampNeg) ?_ ⟨rfl, rfl, h1, 0, Nat.zero_le _, rfl, hRI⟩
      intro r81 M2 c fl q q2 hI hr81
      obtain ⟨rfl, rfl, h2, b, hb, rfl, hRI⟩ := hI
      unfold b_X9_spreads_81
      rw [nN M2 h2.1]
      refine ⟨fun q => ?_, fun q => ?_⟩
      · have e : b = w * hg := Nat.le_antisymm hb ((nI_cond (by omega) (by omega)).mp q)
        rw [nI_1]
        refine hr64 M2 _ fl _ ⟨rfl, h2, a + 1, hl, rfl, hRI.1, hRI.2.imp (fun ⟨f0, eq, cl⟩ => ⟨f0, eq, fun a' b' ha' hb' hl' he => cl a' b' ha' hb' (by omega) he⟩) id⟩ ?_
        show w * hg - (nI (a + 1)).toNatClampNeg < w * hg - (nI a).toNatClampNeg
        rw [nI_clamp (by omega), nI_clamp (by omega)]
        omega
      · have hlb : b < w * hg := Nat.lt_of_not_le (fun q2 => q ((nI_cond (by omega) (by omega)).mpr q2))
        have mdec : ∀ j, w * hg - (nI (b + 1)).toNatClampNeg < w * hg - (nI b).toNatClampNeg ∨ j = 0 := fun j => Or.inl (by
          rw [nI_clamp (by omega), nI_clamp (by omega)]
          omega)
        have md : w * hg - (nI (b + 1)).toNatClampNeg < w * hg - (nI b).toNatClampNeg := (mdec 1).elim id (fun e => absurd e (by omega))
        have next : ∀ M3 fl', rSS 89 o (w * hg) (nbE w) (passN w f (M0.1 83)) src z M0 M3 → rRI 89 o (w * hg) (nbE w) (passN w f (M0.1 83)) Mr M3 fl' a (b + 1) → b_X9_spreads_209 post r53 r64 r81 M3 (nI o) fl' (nI a) (nI b) := fun M3 fl' g1 g2 => by
          unfold b_X9_spreads_209
          rw [nI_1]
          exact hr81 M3 _ fl' _ _ ⟨rfl, rfl, g1, b + 1, hlb, rfl, g2⟩ md
        have oa : nI o + nI a = nI (o + a) := nI_add o a
        have ob : nI o + nI b = nI (o + b) := nI_add o b
        have va := h2.2.2.2.1 a hl
        have vb := h2.2.2.2.1 b hlb
        have ta := rSS_top hp h2 hl
        have tb := rSS_top hp h2 hlb
        have hE81 : M2.1 81 9 = nI w := by rw [h2.1 81 (by omega)]; exact e9
        have wr : ∀ v, v < 1000000 → (rsT 89 o M2 b < v → rSS 89 o (w * hg) (nbE w) (passN w f (M0.1 83)) src z M0 (xset M2 89 (o + b) (nI v))) → ∀ s0 : Int32, (v ≤ rsT 89 o M2 b → rRI 89 o (w * hg) (nbE w) (passN w f (M0.1 83)) Mr M2 s0 a (b + 1)) → (rsT 89 o M2 b < v → rRI 89 o (w * hg) (nbE w) (passN w f (M0.1 83)) Mr (xset M2 89 (o + b) (nI v)) s0 a (b + 1)) → b_X9_spreads_167 post r53 r64 r81 M2 (nI o) (nI a) (nI b) (nI v) s0 := fun v hv g1 s0 g2 g3 => by
          unfold b_X9_spreads_167 b_X9_spreads_208
          rw [ob, nI_clamp (by omega)]
          have kk : kd (81 + 8) = 10 := by decide
          have ll : ln (81 + 8) = 336 := by decide
          refine ⟨vp_in_nI (by omega) (by omega), fun z => ⟨kk, by rw [ll]; exact vp_in_nI (by omega) (by omega), fun M3 e3 => ?_⟩, fun z => ⟨kk, by rw [ll]; exact vp_in_nI (by omega) (by omega), fun M3 e3 => ?_⟩⟩
          · have z' : nI v ≤ M2.1 89 (o + b) := z
            rw [vb] at z'
            have z2 := (nI_leI (by omega) (by omega)).mp z'
            have e3' : M3 = M2 := e3.trans (xset_id rfl)
            rw [e3']
            exact next M2 s0 h2 (g2 z2)
          · have z' : ¬ nI v ≤ M2.1 89 (o + b) := z
            rw [vb] at z'
            have z2 : rsT 89 o M2 b < v := Nat.lt_of_not_le (fun y => z' ((nI_leI (by omega) (by omega)).mpr y))
            rw [e3]
            exact next _ s0 (g1 z2) (g3 z2)
        rw [oa, nI_clamp (by omega)]
        refine ⟨vp_in_nI (by omega) (by omega), fun q0 => ?_, fun q0 => ?_⟩
        · have q0' : M2.1 89 (o + a) ≤ 0 := q0
          rw [va] at q0'
          have z0 : rsT 89 o M2 a ≤ 0 := (nI_leI (b := 0) (by omega) (by omega)).mp q0'
          refine next M2 fl h2 (rRI_skip hRI (fun _ _ _ => ?_))
          have := hp.2 a b (rsT 89 o M2 a)
          omega
        · rw [hE81]
          refine v_areBeside hw hw2 (by omega) (by omega) (fun hE => z_f ?_) (fun hE => z_t (next M2 fl h2 (rRI_skip hRI (fun _ _ he => absurd he hE))))
          have vv : M2.1 (81 + 8) (o + a) = nI (rsT 89 o M2 a) := va
          rw [vv]
          have e83 : M2.1 83 = M0.1 83 := h2.1 83 (by omega)
          refine v_passes hE81 (by rw [h2.1 81 (by omega)]; exact e11) (by rw [e83]; exact hS) hw hw2 hf (by omega) (by omega) hE (by omega) ?_
          rw [e83]
          have hs : passN w f (M0.1 83) a b (rsT 89 o M2 a) < 1000000 := by
            have := hp.2 a b (rsT 89 o M2 a)
            omega
          have g1 : rsT 89 o M2 b < passN w f (M0.1 83) a b (rsT 89 o M2 a) → rSS 89 o (w * hg) (nbE w) (passN w f (M0.1 83)) src z M0 (xset M2 89 (o + b) (nI (passN w f (M0.1 83) a b (rsT 89 o M2 a)))) := fun y => rSS_set hp hz h2 hl hlb hE (Nat.le_of_lt y)
          have g3 : rsT 89 o M2 b < passN w f (M0.1 83) a b (rsT 89 o M2 a) → rRI 89 o (w * hg) (nbE w) (passN w f (M0.1 83)) Mr (xset M2 89 (o + b) (nI (passN w f (M0.1 83) a b (rsT 89 o M2 a)))) 1 a (b + 1) := fun y => rRI_set hs hlb hRI y
          have g2 : passN w f (M0.1 83) a b (rsT 89 o M2 a) ≤ rsT 89 o M2 b → rRI 89 o (w * hg) (nbE w) (passN w f (M0.1 83)) Mr M2 fl a (b + 1) := fun y => rRI_skip hRI (fun _ _ _ => y)
          refine ⟨fun ne => ?_, fun e0 => ?_⟩
          · have f1 : fl = 1 := hRI.2.elim (fun y => absurd y.1 ne) (fun y => y.1)
            unfold b_X9_spreads_162
            exact wr _ hs g1 1 (fun y => f1 ▸ g2 y) g3
          · rw [ob, nI_clamp (by omega)]
            refine ⟨vp_in_nI (by omega) (by omega), fun y => ?_, fun y => ?_⟩
            · have y' : nI (passN w f (M0.1 83) a b (rsT 89 o M2 a)) ≤ M2.1 89 (o + b) := y
              rw [vb] at y'
              have y2 := (nI_leI (by omega) (by omega)).mp y'
              exact wr _ hs g1 0 (fun x => e0 ▸ g2 x) (fun x => absurd x (by omega))
            · have y' : ¬ nI (passN w f (M0.1 83) a b (rsT 89 o M2 a)) ≤ M2.1 89 (o + b) := y
              rw [vb] at y'
              have y2 : rsT 89 o M2 b < passN w f (M0.1 83) a b (rsT 89 o M2 a) := Nat.lt_of_not_le (fun x => y' ((nI_leI (by omega) (by omega)).mpr x))
              unfold b_X9_spreads_162
              exact wr _ hs g1 1 (fun x => absurd x (by omega)) g3
theorem v_spreads {M : xMem} {w hg f i src z : Nat} {post : xMem → Prop} (e9 : M.1 81 9 = nI w) (e10 : M.1 81 10 = nI hg) (e11 : M.1 81 11 = nI f) (hS : rS (M.1 83)) (hw : 1 ≤ w) (hw2 : w ≤ 8) (hf : f < 10) (hn : w * hg ≤ 48) (hi : i < 7) (hsrc : src < w * hg) (hz : z < 1000) (hK : ∀ M', (∀ j, j ≠ 89 → M'.1 j = M.1 j) → M'.2 = M.2 → (∀ k, (k < 48 * i ∨ 48 * i + w * hg ≤ k) → M'.1 89 k = M.1 89 k) → rL w hg f (M.1 83) src z (fun y => M'.1 89 (48 * i + y)) → post M') : w_X9_spreads M (nI i) (nI src) (nI z) post := by
  have e48 : (48 : Int32) * nI i = nI (48 * i) := by rw [show (48 : Int32) = nI 48 from rfl, pk_mul]
  unfold w_X9_spreads
  rw [e48]
  refine xlp5_of (I := fun M' a b c q => a = nI src ∧ b = nI z ∧ c = nI (48 * i) ∧ ∃ k, k ≤ w * hg ∧ q = nI k ∧ (∀ j, j ≠ 89 → M'.1 j = M.1 j) ∧ M'.2 = M.2 ∧ (∀ k, (k < 48 * i ∨ 48 * i + w * hg ≤ k) → M'.1 89 k = M.1 89 k) ∧ ∀ y, y < k → M'.1 89 (48 * i + y) = nI (if y = src then z else 0)) (mu := fun _ _ _ _ q => w * hg - q.toNatClampNeg) ?_ ⟨rfl, rfl, rfl, 0, Nat.zero_le _, rfl, fun _ _ => rfl, rfl, fun _ _ => rfl, fun y hy => absurd hy (Nat.not_lt_zero _)⟩
  intro r M1 a b c q hI hr
  obtain ⟨rfl, rfl, rfl, k, hk, rfl, h1, h2, h3, h4⟩ := hI
  have nN : M1.1 81 9 * M1.1 81 10 = nI (w * hg) := by rw [h1 81 (by omega), e9, e10, pk_mul]
  unfold b_X9_spreads_9
  rw [nN]
  refine ⟨fun q => ?_, fun q => ?_⟩
  · have e : k = w * hg := Nat.le_antisymm hk ((nI_cond (by omega) (by omega)).mp q)
    subst e
    have hT : ∀ y, y < w * hg → rsT 89 (48 * i) M1 y = if y = src then z else 0 := fun y hy => by
      unfold rsT
      rw [h4 y hy, nI_clamp (by split <;> omega)]
    refine v_rounds (M0 := M) (src := src) (z := z) e9 e10 e11 hS hw hw2 hf hn (by omega) hz ⟨h1, h2, h3, fun y hy => ?_, sp_be0 hT, ?_⟩ (fun M' g1 g2 => hK M' g1.1 g1.2.1 g1.2.2.1 ⟨_, g2, g1.2.2.2.1⟩)
    · rw [hT y hy]
      exact h4 y hy
    · rw [hT src hsrc, if_pos rfl]
      exact Nat.le_refl _
  · have hl : k < w * hg := Nat.lt_of_not_le (fun q2 => q ((nI_cond (by omega) (by omega)).mpr q2))
    have ok : nI (48 * i) + nI k = nI (48 * i + k) := nI_add _ _
    have kk : kd (81 + 8) = 10 := by decide
    have ll : ln (81 + 8) = 336 := by decide
    have go : ∀ v : Nat, v = (if k = src then z else 0) → b_X9_spreads_43 post r M1 (nI src) (nI z) (nI (48 * i)) (nI k) (81 + 8) (nI (48 * i + k)) (nI v) := fun v hv => by
      unfold b_X9_spreads_43
      refine ⟨kk, by rw [ll]; exact vp_in_nI (by omega) (by omega), fun M3 e3 => ?_⟩
      rw [nI_clamp (by omega)] at e3
      have e3' : M3 = xset M1 89 (48 * i + k) (nI v) := e3
      rw [nI_1]
      refine hr M3 _ _ _ _ ⟨rfl, rfl, rfl, k + 1, hl, rfl, fun j hj => ?_, ?_, fun k' hk' => ?_, fun y hy => ?_⟩ ?_
      · rw [e3', m_row _ _ _ hj]
        exact h1 j hj
      · rw [e3', m_snd]
        exact h2
      · rw [e3', m_col _ _ _ (by omega)]
        exact h3 k' hk'
      · rw [e3']
        by_cases e : y = k
        · subst e
          rw [m_same, hv]
        · rw [m_col _ _ _ (by omega)]
          exact h4 y (by omega)
      · show w * hg - (nI (k + 1)).toNatClampNeg < w * hg - (nI k).toNatClampNeg
        rw [nI_clamp (by omega), nI_clamp (by omega)]
        omega
    rw [ok]
    refine ⟨fun n => go 0 ?_, fun y => go z ?_⟩
    · rw [if_neg (fun e => n (by rw [e]))]
    · rw [if_pos (q_inj (by omega) (by omega) y)]
theorem rL_uniq {w hg f src z : Nat} {s : Nat → Int32} {r r' : Nat → Int32} (h : rL w hg f s src z r) (h' : rL w hg f s src z r') : ∀ y, y < w * hg → r y = r' y := by
  obtain ⟨T, t1, t2⟩ := h
  obtain ⟨T', t1', t2'⟩ := h'
  intro y hy
  rw [t2 y hy, t2' y hy, sp_one t1 t1' y hy]
/-- only the reference's table of loudness was written -/
theorem Rel_loud {M M' : xMem} {h d w hg f nw nd : Nat} (hR : Rel M h d w hg f nw nd) (h1 : ∀ j, j ≠ 89 → M'.1 j = M.1 j) (h2 : M'.2 = M.2) : Rel M' h d w hg f nw nd := by
  refine Rel_same hR ⟨fun i k q => ?_, h2⟩
  have : i ≠ 89 := fun e => q (by unfold scr; omega)
  rw [h1 i this]
theorem P_loud {M : xMem} (hR : RelE M) (a0 : Int32) (a1 : Int32) {K : Int32 → xMem → Prop} (hK : ∀ r M1, (∀ K2 : Int32 → xMem → Prop, (∀ M2, RelE M2 → K2 r M2) → w_X9_loud M1 a0 a1 K2) → K r M1) : w_X8_loud M a0 a1 K := by
  obtain ⟨h, d, w, hg, f, nw, nd, hR⟩ := hR
  obtain ⟨hh, e5, hk⟩ := Rel_h hR
  obtain ⟨r1, r2, r3, r4, r5, r6, r7, r8, r9, r10, r11, r12, r13⟩ := id hR
  have hb := (rB_bounds r3).2
  have hnw : nw ≤ 6 := r3.2.2.2.1
  have hthr : Rel (xset M 81 0 0) h d w hg f nw nd := Rel_thr hR
  have hthrE : RelE (xset M 81 0 0) := ⟨h, d, w, hg, f, nw, nd, hthr⟩
  have e9 : (xset M 81 0 0).1 81 9 = nI w := (m_col _ _ _ (by omega)).trans r4.1
  have e10 : (xset M 81 0 0).1 81 10 = nI hg := (m_col _ _ _ (by omega)).trans r4.2.1
  have e11 : (xset M 81 0 0).1 81 11 = nI f := (m_col _ _ _ (by omega)).trans r4.2.2.1
  have e20 : (xset M 81 0 0).1 81 20 = nI nw := (m_col _ _ _ (by omega)).trans r4.2.2.2.1
  have e83 : (xset M 81 0 0).1 83 = M.1 83 := m_row _ _ _ (by omega)
  have e87 : (xset M 81 0 0).1 87 = M.1 87 := m_row _ _ _ (by omega)
  have f4 : ∀ j, (4 : Int32) * nI j = nI (4 * j) := fun j => by rw [show (4 : Int32) = nI 4 from rfl, pk_mul]
  unfold w_X8_loud
  rw [e5]
  refine u_isWorker hk r7.1.2.2.1 (by omega) (fun hin => z_f ?_) (fun hin => z_t (hK _ _ (fun K2 h2 => ?_)))
  · rw [e5]
    refine u_isYard hk r7.1.1 r7.1.2.1 (by omega) (fun hin2 => z_nf ?_) (fun hin2 => z_nt (hK _ _ (fun K2 h2 => ?_)))
    · obtain ⟨i, hi, rfl⟩ := id hin
      obtain ⟨y, hy, rfl⟩ := id hin2
      refine ⟨vp_in_nI (by omega) (by omega), vp_in_nI (by omega) (by omega), ?_⟩
      rw [nI_clamp (by omega), nI_clamp (by omega), show 0 + 5 + 1 + 1 + i = 7 + i by omega]
      refine hK _ _ (fun K2 h2 => ?_)
      unfold w_X9_loud
      intro M1 e1
      subst e1
      refine v_isWorker e20 (by omega) (fun _ => z_f ?_) (fun q => absurd hin q)
      refine v_isYard e9 e10 (by omega) (fun _ => z_nf ?_) (fun q => absurd hin2 q)
      rw [f4, nI_1, nI_clamp (by omega), nI_clamp (by omega)]
      refine ⟨vp_in_nI (by omega) (by omega), vp_in_nI (by omega) (by omega), ?_⟩
      have k87 : (xset M 81 0 0).1 (81 + 6) = M.1 87 := e87
      obtain ⟨⟨src, s1, s2⟩, ⟨z, z1, z2⟩, _⟩ := r6.2.1 i hi
      rw [k87, s2, z2]
      have hL := r11 i hi
      rw [s2, z2, nI_clamp (by omega), nI_clamp (by omega)] at hL
      refine v_spreads e9 e10 e11 (by rw [e83]; exact r6.1) r3.1.1 r3.1.2 (by have := r3.2.2.1; omega) hb (by omega) s1 (by omega) (fun M' g1 g2 g3 g4 => ?_)
      have ea : (48 : Int32) * nI i + nI y = nI (48 * i + y) := by rw [show (48 : Int32) = nI 48 from rfl, pk_mul, nI_add]
      rw [ea, nI_clamp (by omega)]
      refine ⟨vp_in_nI (by omega) (by omega), ?_⟩
      rw [e83] at g4
      have := rL_uniq hL g4 y hy
      rw [this] at h2
      exact h2 M' ⟨h, d, w, hg, f, nw, nd, Rel_loud hthr g1 g2⟩
    · unfold w_X9_loud
      intro M1 e1
      subst e1
      refine v_isWorker e20 (by omega) (fun _ => z_f ?_) (fun q => absurd hin q)
      exact v_isYard e9 e10 (by omega) (fun q => absurd q hin2) (fun _ => z_nt (h2 _ hthrE))
  · unfold w_X9_loud
    intro M1 e1
    subst e1
    exact v_isWorker e20 (by omega) (fun q => absurd q hin) (fun _ => z_t (h2 _ hthrE))
