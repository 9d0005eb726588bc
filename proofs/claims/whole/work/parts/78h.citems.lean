/-! items: what is asked of their tokens; the class reads them -/
def tN (x : Nat → Int32) (n p lo hi : Nat) : Prop := tkC x n p = 2 ∧ lo ≤ tkV x n p ∧ tkV x n p ≤ hi
def ps (x : Nat → Int32) (n p : Nat) : Nat → Nat
  | 0 => p
  | j + 1 => tkE x n (ps x n p j)
theorem ps_le {x : Nat → Int32} {n p : Nat} (h : p ≤ n) : ∀ j, ps x n p j ≤ n
  | 0 => h
  | j + 1 => (tkE_le (ps_le h j)).2
def al (ck : Nat → Prop) (m : Nat) : Prop := ∀ i, 1 ≤ i → i ≤ m → ck i
theorem al_0 {ck : Nat → Prop} : al ck 0 := fun i a b => by omega
theorem al_S {ck : Nat → Prop} {m : Nat} (h : al ck m) (c : ck (m + 1)) : al ck (m + 1) := fun i a b => by
  by_cases e : i = m + 1
  · rw [e]
    exact c
  · exact h i a (by omega)
/-- the first of the checks that fails, and where its token starts -/
def fl (x : Nat → Int32) (n p : Nat) (ck : Nat → Prop) (m st : Nat) : Prop := ∃ j, j < m ∧ al ck j ∧ ¬ ck (j + 1) ∧ st = tkS x n (ps x n p (j + 1))
theorem fl_uniq {x : Nat → Int32} {n p m st st' : Nat} {ck : Nat → Prop} (h : fl x n p ck m st) (h' : fl x n p ck m st') : st = st' := by
  obtain ⟨j, j1, j2, j3, j4⟩ := h
  obtain ⟨k, k1, k2, k3, k4⟩ := h'
  have e : j = k := by
    rcases Nat.lt_trichotomy j k with q | q | q
    · exact absurd (k2 (j + 1) (by omega) q) j3
    · exact q
    · exact absurd (j2 (k + 1) (by omega) q) k3
  rw [j4, k4, e]
theorem fl_no {x : Nat → Int32} {n p m st : Nat} {ck : Nat → Prop} (h : fl x n p ck m st) (a : al ck m) : False := by
  obtain ⟨j, j1, j2, j3, j4⟩ := h
  exact j3 (a (j + 1) (by omega) (by omega))
def ckH (x : Nat → Int32) (n p : Nat) : Nat → Prop
  | 1 => tN x n (ps x n p 1) 1 8
  | 2 => tN x n (ps x n p 2) 1 6
  | 3 => tkC x n (ps x n p 3) = 3
  | _ => True
def ckB (x : Nat → Int32) (n p w N mx : Nat) : Nat → Prop
  | 1 => tN x n (ps x n p 1) 0 (N - 1)
  | 2 => tN x n (ps x n p 2) 0 (N - 1) ∧ nbE w (tkV x n (ps x n p 1)) (tkV x n (ps x n p 2))
  | 3 => tN x n (ps x n p 3) 0 mx
  | 4 => tkC x n (ps x n p 4) = 3
  | _ => True
def ckV (x : Nat → Int32) (n p : Nat) : Nat → Prop
  | 1 => 8 ≤ tkC x n (ps x n p 1) ∧ tkC x n (ps x n p 1) ≤ 11
  | 2 => tN x n (ps x n p 2) 0 2
  | 3 => tkC x n (ps x n p 3) = 3
  | _ => True
def ckW (x : Nat → Int32) (n p N : Nat) : Nat → Prop
  | 1 => tN x n (ps x n p 1) 0 (N - 1)
  | 2 => tN x n (ps x n p 2) 1 99
  | 3 => tN x n (ps x n p 3) 0 4
  | 4 => tN x n (ps x n p 4) 0 99
  | 5 => tkC x n (ps x n p 5) = 3
  | _ => True
def ckD (x : Nat → Int32) (n p N : Nat) : Nat → Prop
  | 1 => tN x n (ps x n p 1) 0 (N - 1)
  | 2 => tN x n (ps x n p 2) 0 11
  | 3 => tN x n (ps x n p 3) (tkV x n (ps x n p 2)) 11
  | 4 => tN x n (ps x n p 4) 0 99
  | 5 => tN x n (ps x n p 5) 0 99
  | 6 => tkC x n (ps x n p 6) = 3
  | _ => True
/-- a number was read into a row -/
def cNm (M M' : xMem) (R c v e : Nat) : Prop := (∀ j, j ≠ 1 → j ≠ R → M'.1 j = M.1 j) ∧ M'.1 R = upd (M.1 R) c (nI v) ∧ M'.2 = M.2 ∧ M'.1 1 2 = nI e
theorem u_rdN3 {M : xMem} {n p lo hi R c : Nat} {x : Nat → Int32} {l h' cc : Int32} {post : Int32 → xMem → Prop} (el : l = nI lo) (eh : h' = nI hi) (ec : cc = nI c) (hlo : lo < 1000) (hhi : hi < 1000) (hT : cTx M n x) (hp : p ≤ n) (e2 : M.1 1 2 = nI p) (hR : kd R = 10) (hc : c < ln R) (hl : ln R < 1000) (hR1 : R ≠ 1) (h1 : tN x n p lo hi → ∀ M', cNm M M' R c (tkV x n p) (tkE x n p) → M'.1 1 3 = nI (tkS x n p) → post 1 M') (h0 : ¬ tN x n p lo hi → ∀ M', (∀ j, j ≠ 1 → M'.1 j = M.1 j) → M'.2 = M.2 → M'.1 1 3 = nI (tkS x n p) → post 0 M') : w_X5_readNumber M l h' R cc post := by
  subst el
  subst eh
  subst ec
  have h13 := tkC_le (x := x) (n := n) (p := p)
  unfold w_X5_readNumber
  refine u_next hT hp e2 (fun M2 hk => ?_)
  obtain ⟨k1, k2, k3, k4, k5, k6⟩ := hk
  rw [k5]
  refine ⟨fun ne => h0 (fun z => ne (by rw [z.1]; rfl)) M2 k1 k2 k4, fun e => ?_⟩
  have c2 : tkC x n p = 2 := q_inj (a := tkC x n p) (b := 2) (by omega) (by omega) e
  have v99 := tkV_le c2
  rw [k6 c2]
  refine u_within (fun a b => z_nf ⟨fun z => absurd z (nI_pos (by omega)), fun _ => ⟨hR, fun _ => ⟨vp_in_nI hc (by omega), fun M11 e11 => ?_⟩, fun z => absurd (nI_lt hc (by omega)) z⟩⟩) (fun q => z_nt (h0 (fun z => q ⟨nI_le z.2.1 (by omega), nI_le z.2.2 (by omega)⟩) M2 k1 k2 k4))
  rw [nI_clamp (by omega), k6 c2] at e11
  refine h1 ⟨c2, (nI_cond (by omega) (by omega)).mp a, (nI_cond (by omega) (by omega)).mp b⟩ M11 ⟨fun j j1 j2 => by rw [e11, m_row _ _ _ j2]; exact k1 j j1, by rw [e11, m_upd, k1 R hR1], by rw [e11, m_snd]; exact k2, by rw [e11, m_row _ _ _ (Ne.symm hR1)]; exact k3⟩ (by rw [e11, m_row _ _ _ (Ne.symm hR1)]; exact k4)
theorem u_rdN {M : xMem} {n p lo hi R c : Nat} {x : Nat → Int32} {l h' cc : Int32} {post : Int32 → xMem → Prop} (el : l = nI lo) (eh : h' = nI hi) (ec : cc = nI c) (hlo : lo < 1000) (hhi : hi < 1000) (hT : cTx M n x) (hp : p ≤ n) (e2 : M.1 1 2 = nI p) (hR : kd R = 10) (hc : c < ln R) (hl : ln R < 1000) (hR1 : R ≠ 1) (h1 : tN x n p lo hi → ∀ M', cNm M M' R c (tkV x n p) (tkE x n p) → post 1 M') (h0 : ¬ tN x n p lo hi → ∀ M', (∀ j, j ≠ 1 → M'.1 j = M.1 j) → M'.2 = M.2 → M'.1 1 3 = nI (tkS x n p) → post 0 M') : w_X5_readNumber M l h' R cc post := u_rdN3 el eh ec hlo hhi hT hp e2 hR hc hl hR1 (fun t M' k _ => h1 t M' k) h0
/-- what an item's reading may change: the reader, its numbers, the draft -/
def cF (M M' : xMem) (d : Nat) : Prop := (∀ j, j ≠ 1 → j ≠ 4 → ¬ (d ≤ j ∧ j < d + 20) → M'.1 j = M.1 j) ∧ M'.2 = M.2
theorem cF_rf {M : xMem} {d : Nat} : cF M M d := ⟨fun _ _ _ _ => rfl, rfl⟩
theorem cF_tr {M M' M'' : xMem} {d : Nat} (h : cF M M' d) (h' : cF M' M'' d) : cF M M'' d := ⟨fun j a b c => (h'.1 j a b c).trans (h.1 j a b c), h'.2.trans h.2⟩
theorem cF_1 {M M' : xMem} {d : Nat} (h : ∀ j, j ≠ 1 → M'.1 j = M.1 j) (h2 : M'.2 = M.2) : cF M M' d := ⟨fun j a _ _ => h j a, h2⟩
theorem cF_N {M M' : xMem} {d R c v e : Nat} (h : cNm M M' R c v e) (hR : R = 4 ∨ (d ≤ R ∧ R < d + 20)) : cF M M' d := ⟨fun j a b g => h.1 j a (fun e => by omega), h.2.2.1⟩
theorem cTx_N {M M' : xMem} {n R c v e : Nat} {x : Nat → Int32} (hT : cTx M n x) (h : cNm M M' R c v e) (h2 : R ≠ 2) (h3 : R ≠ 3) : cTx M' n x := cTx_of hT (h.1 2 (by omega) (Ne.symm h2)) (h.1 3 (by omega) (Ne.symm h3))
theorem cTx_F {M M' : xMem} {n d : Nat} {x : Nat → Int32} (hT : cTx M n x) (hd : 4 < d) (h : cF M M' d) : cTx M' n x := cTx_of hT (h.1 2 (by omega) (by omega) (by omega)) (h.1 3 (by omega) (by omega) (by omega))
/-- behind an item: the semicolon -/
theorem c161_bad {M : xMem} {d st : Nat} {i : Int32} {post : Int32 → xMem → Prop} {r : xMem → Nat → Int32 → Prop} (e : M.1 1 3 = nI st) (h : post ((-10 : Int32) - nI st) M) : b_X5_read_161 post r M d i 0 := by
  unfold b_X5_read_161 b_X5_read_170
  rw [e]
  exact ⟨fun _ => ⟨fun z => absurd rfl z, fun _ => h⟩, fun z => absurd rfl z⟩
theorem c161_ok {M : xMem} {n d q : Nat} {x : Nat → Int32} {i : Int32} {post : Int32 → xMem → Prop} {r : xMem → Nat → Int32 → Prop} (hT : cTx M n x) (hq : q ≤ n) (e2 : M.1 1 2 = nI q) (h1 : tkC x n q = 3 → ∀ M', (∀ j, j ≠ 1 → M'.1 j = M.1 j) → M'.2 = M.2 → M'.1 1 2 = nI (tkE x n q) → r M' d (i + 1)) (h0 : ¬ tkC x n q = 3 → ∀ M', (∀ j, j ≠ 1 → M'.1 j = M.1 j) → M'.2 = M.2 → post ((-10 : Int32) - nI (tkS x n q)) M') : b_X5_read_161 post r M d i 1 := by
  have h13 := tkC_le (x := x) (n := n) (p := q)
  unfold b_X5_read_161 w_X5_readSemicolon
  refine ⟨fun z => absurd z (by decide), fun _ => ?_⟩
  refine u_next hT hq e2 (fun M2 hk => ?_)
  obtain ⟨k1, k2, k3, k4, k5, k6⟩ := hk
  unfold b_X5_read_170
  rw [k5]
  refine ⟨fun ne => ⟨fun z => absurd rfl z, fun _ => ?_⟩, fun e => ⟨fun _ => ?_, fun z => absurd z (by decide)⟩⟩
  · rw [k4]
    exact h0 (fun z => ne (by rw [z]; rfl)) M2 k1 k2
  · exact h1 (q_inj (a := tkC x n q) (b := 3) (by omega) (by omega) e) M2 k1 k2 k3
theorem yd1 {w hg : Nat} (h : 1 ≤ w * hg) : nI w * nI hg - (1 : Int32) = nI (w * hg - 1) := by rw [pk_mul, show (1 : Int32) = nI 1 from rfl, pk_sub h]
/-- worker -/
theorem u_itW {M : xMem} {n p d w hg nw : Nat} {x : Nat → Int32} {i : Int32} {post : Int32 → xMem → Prop} {r : xMem → Nat → Int32 → Prop} (hh : d = 35 ∨ d = 58) (hT : cTx M n x) (hp : p ≤ n) (e2 : M.1 1 2 = nI (tkE x n p)) (c0 : M.1 d 0 = nI w) (c1 : M.1 d 1 = nI hg) (cn : M.1 d 2 = nI nw) (hnw : nw < 6) (hN : 1 ≤ w * hg ∧ w * hg ≤ 48) (hok : al (ckW x n p (w * hg)) 5 → ∀ M', cF M M' d → M'.1 1 2 = nI (ps x n p 6) → (∀ k, k ≠ 2 → M'.1 d k = M.1 d k) → M'.1 d 2 = nI (nw + 1) → (∀ j, j ≠ d → j ≠ d + (5 + nw) → d ≤ j → j < d + 20 → M'.1 j = M.1 j) → (∀ k, k < 4 → M'.1 (d + (5 + nw)) k = nI (tkV x n (ps x n p (k + 1)))) → r M' d (i + 1)) (hbad : ∀ st, fl x n p (ckW x n p (w * hg)) 5 st → ∀ M', cF M M' d → post ((-10 : Int32) - nI st) M') : w_X5_readWorker M d (fun z M' => b_X5_read_161 post r M' d i z) := by
  have kh : kd d = 2 := by rcases hh with rfl | rfl <;> decide
  obtain ⟨r10, r4⟩ := row_w hh hnw
  have hps := ps_le (x := x) hp
  have ed : d + 4 + 1 + nw = d + (5 + nw) := by omega
  unfold w_X5_readWorker
  rw [cn, nI_clamp (by omega), nI_1]
  refine ⟨kh, fun _ => ⟨vp_in_nI hnw (by omega), fun M4 e4 => ?_⟩, fun z => absurd (nI_lt (b := 6) hnw (by omega)) z⟩
  rw [ed] at r10 r4 ⊢
  have f4 : cF M M4 d := ⟨fun j _ _ g => by rw [e4, m_row _ _ _ (by omega)], by rw [e4, m_snd]⟩
  have g4 : ∀ j, j ≠ d → M4.1 j = M.1 j := fun j hj => by rw [e4, m_row _ _ _ hj]
  have n40 : M4.1 d 0 = nI w := by rw [e4, m_col _ _ _ (by omega)]; exact c0
  have n41 : M4.1 d 1 = nI hg := by rw [e4, m_col _ _ _ (by omega)]; exact c1
  have hT4 := cTx_F hT (by omega) f4
  unfold w_X2_yards
  rw [n40, n41]
  refine ⟨kh, ?_⟩
  refine u_rdN (lo := 0) (c := 0) rfl (yd1 hN.1) rfl (by omega) (by omega) hT4 (hps 1) (by rw [g4 1 (by omega)]; exact e2) r10 (by omega) (by omega) (by omega) (fun t1 M8 k8 => z_f ?_) (fun t1 M8 k8 k8' k83 => z_t (c161_bad k83 (hbad _ ⟨0, by omega, al_0, t1, rfl⟩ M8 (cF_tr f4 (cF_1 k8 k8')))))
  have a1 : al (ckW x n p (w * hg)) 1 := al_S al_0 t1
  have f8 := cF_tr f4 (cF_N k8 (Or.inr (by omega)))
  have hT8 := cTx_N hT4 k8 (by omega) (by omega)
  refine u_rdN (lo := 1) (hi := 99) (c := 1) rfl rfl rfl (by omega) (by omega) hT8 (hps 2) k8.2.2.2 r10 (by omega) (by omega) (by omega) (fun t2 M11 k11 => z_f ?_) (fun t2 M11 q q' q3 => z_t (c161_bad q3 (hbad _ ⟨1, by omega, a1, t2, rfl⟩ M11 (cF_tr f8 (cF_1 q q')))))
  have a2 : al (ckW x n p (w * hg)) 2 := al_S a1 t2
  have f11 := cF_tr f8 (cF_N k11 (Or.inr (by omega)))
  have hT11 := cTx_N hT8 k11 (by omega) (by omega)
  refine u_rdN (lo := 0) (hi := 4) (c := 2) rfl rfl rfl (by omega) (by omega) hT11 (hps 3) k11.2.2.2 r10 (by omega) (by omega) (by omega) (fun t3 M14 k14 => z_f ?_) (fun t3 M14 q q' q3 => z_t (c161_bad q3 (hbad _ ⟨2, by omega, a2, t3, rfl⟩ M14 (cF_tr f11 (cF_1 q q')))))
  have a3 : al (ckW x n p (w * hg)) 3 := al_S a2 t3
  have f14 := cF_tr f11 (cF_N k14 (Or.inr (by omega)))
  have hT14 := cTx_N hT11 k14 (by omega) (by omega)
  refine u_rdN (lo := 0) (hi := 99) (c := 3) rfl rfl rfl (by omega) (by omega) hT14 (hps 4) k14.2.2.2 r10 (by omega) (by omega) (by omega) (fun t4 M17 k17 => z_f ?_) (fun t4 M17 q q' q3 => z_t (c161_bad q3 (hbad _ ⟨3, by omega, a3, t4, rfl⟩ M17 (cF_tr f14 (cF_1 q q')))))
  have a4 : al (ckW x n p (w * hg)) 4 := al_S a3 t4
  have f17 := cF_tr f14 (cF_N k17 (Or.inr (by omega)))
  have hT17 := cTx_N hT14 k17 (by omega) (by omega)
  refine c161_ok hT17 (hps 5) k17.2.2.2 (fun t5 M' q q' q2 => hok (al_S a4 t5) M' (cF_tr f17 (cF_1 q q')) q2 (fun k hk => ?_) ?_ (fun j j1 j2 j3 j4 => ?_) (fun k hk => ?_)) (fun t5 M' q q' => hbad _ ⟨4, by omega, a4, t5, rfl⟩ M' (cF_tr f17 (cF_1 q q')))
  · rw [q d (by omega), k17.1 d (by omega) (by omega), k14.1 d (by omega) (by omega), k11.1 d (by omega) (by omega), k8.1 d (by omega) (by omega), e4, m_col _ _ _ hk]
  · rw [q d (by omega), k17.1 d (by omega) (by omega), k14.1 d (by omega) (by omega), k11.1 d (by omega) (by omega), k8.1 d (by omega) (by omega), e4, m_same]
  · rw [q j (by omega), k17.1 j (by omega) j2, k14.1 j (by omega) j2, k11.1 j (by omega) j2, k8.1 j (by omega) j2, e4, m_row _ _ _ j1]
  · rw [q _ (by omega), k17.2.1]
    by_cases h3 : k = 3
    · subst h3
      rw [pk_us]
    · rw [pk_un h3, k14.2.1]
      by_cases h2 : k = 2
      · subst h2
        rw [pk_us]
      · rw [pk_un h2, k11.2.1]
        by_cases h1 : k = 1
        · subst h1
          rw [pk_us]
        · rw [pk_un h1, k8.2.1]
          have h0 : k = 0 := by omega
          subst h0
          rw [pk_us]
/-- deed -/
theorem u_itD {M : xMem} {n p d w hg nd : Nat} {x : Nat → Int32} {i : Int32} {post : Int32 → xMem → Prop} {r : xMem → Nat → Int32 → Prop} (hh : d = 35 ∨ d = 58) (hT : cTx M n x) (hp : p ≤ n) (e2 : M.1 1 2 = nI (tkE x n p)) (c0 : M.1 d 0 = nI w) (c1 : M.1 d 1 = nI hg) (cn : M.1 d 3 = nI nd) (hnd : nd < 8) (hN : 1 ≤ w * hg ∧ w * hg ≤ 48) (hok : al (ckD x n p (w * hg)) 6 → ∀ M', cF M M' d → M'.1 1 2 = nI (ps x n p 7) → (∀ k, k ≠ 3 → M'.1 d k = M.1 d k) → M'.1 d 3 = nI (nd + 1) → (∀ j, j ≠ d → j ≠ d + (12 + nd) → d ≤ j → j < d + 20 → M'.1 j = M.1 j) → (∀ k, k < 5 → M'.1 (d + (12 + nd)) k = nI (tkV x n (ps x n p (k + 1)))) → r M' d (i + 1)) (hbad : ∀ st, fl x n p (ckD x n p (w * hg)) 6 st → ∀ M', cF M M' d → post ((-10 : Int32) - nI st) M') : w_X5_readDeed M d (fun z M' => b_X5_read_161 post r M' d i z) := by
  have kh : kd d = 2 := by rcases hh with rfl | rfl <;> decide
  obtain ⟨r10, r6⟩ := row_d hh hnd
  have hps := ps_le (x := x) hp
  have ed : d + 11 + 1 + nd = d + (12 + nd) := by omega
  unfold w_X5_readDeed
  rw [cn, nI_clamp (by omega), nI_1]
  refine ⟨kh, fun _ => ⟨vp_in_nI hnd (by omega), fun M4 e4 => ?_⟩, fun z => absurd (nI_lt (b := 8) hnd (by omega)) z⟩
  rw [ed] at r10 r6 ⊢
  have f4 : cF M M4 d := ⟨fun j _ _ g => by rw [e4, m_row _ _ _ (by omega)], by rw [e4, m_snd]⟩
  have g4 : ∀ j, j ≠ d → M4.1 j = M.1 j := fun j hj => by rw [e4, m_row _ _ _ hj]
  have n40 : M4.1 d 0 = nI w := by rw [e4, m_col _ _ _ (by omega)]; exact c0
  have n41 : M4.1 d 1 = nI hg := by rw [e4, m_col _ _ _ (by omega)]; exact c1
  have hT4 := cTx_F hT (by omega) f4
  unfold w_X2_yards
  rw [n40, n41]
  refine ⟨kh, ?_⟩
  refine u_rdN (lo := 0) (c := 0) rfl (yd1 hN.1) rfl (by omega) (by omega) hT4 (hps 1) (by rw [g4 1 (by omega)]; exact e2) r10 (by omega) (by omega) (by omega) (fun t1 M8 k8 => z_f ?_) (fun t1 M8 k8 k8' k83 => z_t (c161_bad k83 (hbad _ ⟨0, by omega, al_0, t1, rfl⟩ M8 (cF_tr f4 (cF_1 k8 k8')))))
  have a1 : al (ckD x n p (w * hg)) 1 := al_S al_0 t1
  have f8 := cF_tr f4 (cF_N k8 (Or.inr (by omega)))
  have hT8 := cTx_N hT4 k8 (by omega) (by omega)
  refine u_rdN (lo := 0) (hi := 11) (c := 1) rfl rfl rfl (by omega) (by omega) hT8 (hps 2) k8.2.2.2 r10 (by omega) (by omega) (by omega) (fun t2 M11 k11 => z_f ?_) (fun t2 M11 q q' q3 => z_t (c161_bad q3 (hbad _ ⟨1, by omega, a1, t2, rfl⟩ M11 (cF_tr f8 (cF_1 q q')))))
  have a2 : al (ckD x n p (w * hg)) 2 := al_S a1 t2
  have f11 := cF_tr f8 (cF_N k11 (Or.inr (by omega)))
  have hT11 := cTx_N hT8 k11 (by omega) (by omega)
  have v2 := t2.2.2
  have e11 : M11.1 (d + (12 + nd)) (1 : Int32).toNatClampNeg = nI (tkV x n (ps x n p 2)) := by
    rw [show (1 : Int32).toNatClampNeg = 1 by decide, k11.2.1, pk_us]
  refine u_rdN (lo := tkV x n (ps x n p 2)) (hi := 11) (c := 2) e11 rfl rfl (by omega) (by omega) hT11 (hps 3) k11.2.2.2 r10 (by omega) (by omega) (by omega) (fun t3 M14 k14 => z_f ?_) (fun t3 M14 q q' q3 => z_t (c161_bad q3 (hbad _ ⟨2, by omega, a2, t3, rfl⟩ M14 (cF_tr f11 (cF_1 q q')))))
  have a3 : al (ckD x n p (w * hg)) 3 := al_S a2 t3
  have f14 := cF_tr f11 (cF_N k14 (Or.inr (by omega)))
  have hT14 := cTx_N hT11 k14 (by omega) (by omega)
  refine u_rdN (lo := 0) (hi := 99) (c := 3) rfl rfl rfl (by omega) (by omega) hT14 (hps 4) k14.2.2.2 r10 (by omega) (by omega) (by omega) (fun t4 M17 k17 => z_f ?_) (fun t4 M17 q q' q3 => z_t (c161_bad q3 (hbad _ ⟨3, by omega, a3, t4, rfl⟩ M17 (cF_tr f14 (cF_1 q q')))))
  have a4 : al (ckD x n p (w * hg)) 4 := al_S a3 t4
  have f17 := cF_tr f14 (cF_N k17 (Or.inr (by omega)))
  have hT17 := cTx_N hT14 k17 (by omega) (by omega)
  refine u_rdN (lo := 0) (hi := 99) (c := 4) rfl rfl rfl (by omega) (by omega) hT17 (hps 5) k17.2.2.2 r10 (by omega) (by omega) (by omega) (fun t5 M20 k20 => z_f ?_) (fun t5 M20 q q' q3 => z_t (c161_bad q3 (hbad _ ⟨4, by omega, a4, t5, rfl⟩ M20 (cF_tr f17 (cF_1 q q')))))
  have a5 : al (ckD x n p (w * hg)) 5 := al_S a4 t5
  have f20 := cF_tr f17 (cF_N k20 (Or.inr (by omega)))
  have hT20 := cTx_N hT17 k20 (by omega) (by omega)
  refine c161_ok hT20 (hps 6) k20.2.2.2 (fun t6 M' q q' q2 => hok (al_S a5 t6) M' (cF_tr f20 (cF_1 q q')) q2 (fun k hk => ?_) ?_ (fun j j1 j2 j3 j4 => ?_) (fun k hk => ?_)) (fun t6 M' q q' => hbad _ ⟨5, by omega, a5, t6, rfl⟩ M' (cF_tr f20 (cF_1 q q')))
  · rw [q d (by omega), k20.1 d (by omega) (by omega), k17.1 d (by omega) (by omega), k14.1 d (by omega) (by omega), k11.1 d (by omega) (by omega), k8.1 d (by omega) (by omega), e4, m_col _ _ _ hk]
  · rw [q d (by omega), k20.1 d (by omega) (by omega), k17.1 d (by omega) (by omega), k14.1 d (by omega) (by omega), k11.1 d (by omega) (by omega), k8.1 d (by omega) (by omega), e4, m_same]
  · rw [q j (by omega), k20.1 j (by omega) j2, k17.1 j (by omega) j2, k14.1 j (by omega) j2, k11.1 j (by omega) j2, k8.1 j (by omega) j2, e4, m_row _ _ _ j1]
  · rw [q _ (by omega), k20.2.1]
    by_cases h4 : k = 4
    · subst h4
      rw [pk_us]
    · rw [pk_un h4, k17.2.1]
      by_cases h3 : k = 3
      · subst h3
        rw [pk_us]
      · rw [pk_un h3, k14.2.1]
        by_cases h2 : k = 2
        · subst h2
          rw [pk_us]
        · rw [pk_un h2, k11.2.1]
          by_cases h1 : k = 1
          · subst h1
            rw [pk_us]
          · rw [pk_un h1, k8.2.1]
            have h0 : k = 0 := by omega
            subst h0
            rw [pk_us]
/-- hill -/
theorem u_itH {M : xMem} {n p d : Nat} {x : Nat → Int32} {i : Int32} {post : Int32 → xMem → Prop} {r : xMem → Nat → Int32 → Prop} (hh : d = 35 ∨ d = 58) (hT : cTx M n x) (hp : p ≤ n) (e2 : M.1 1 2 = nI (tkE x n p)) (hok : al (ckH x n p) 3 → ∀ M', cF M M' d → M'.1 1 2 = nI (ps x n p 4) → (∀ k, k ≠ 0 → k ≠ 1 → M'.1 d k = M.1 d k) → M'.1 d 0 = nI (tkV x n (ps x n p 1)) → M'.1 d 1 = nI (tkV x n (ps x n p 2)) → (∀ j, j ≠ d → d ≤ j → j < d + 20 → M'.1 j = M.1 j) → r M' d (i + 1)) (hbad : ∀ st, fl x n p (ckH x n p) 3 st → ∀ M', cF M M' d → post ((-10 : Int32) - nI st) M') : w_X5_readSize M d (fun z7 M8 => ((z7 = 0) → (b_X5_read_104 post r M8 d i)) ∧ ((¬ z7 = 0) → (b_X5_read_105 post r M8 d i (1 : Int32)))) := by
  have kh : kd d = 2 := by rcases hh with rfl | rfl <;> decide
  have hps := ps_le (x := x) hp
  have k10 : kd (1 + 3) = 10 := by decide
  have l2 : ln (1 + 3) = 2 := by decide
  have c0 : (0 : Int32).toNatClampNeg = 0 := by decide
  have c1 : (1 : Int32).toNatClampNeg = 1 := by decide
  have bad : ∀ M' st, M'.1 1 3 = nI st → post ((-10 : Int32) - nI st) M' → b_X5_read_104 post r M' d i := fun M' st a b => by
    unfold b_X5_read_104 b_X5_read_105
    exact c161_bad a b
  unfold w_X5_readSize
  refine u_rdN (lo := 1) (hi := 8) (c := 0) rfl rfl rfl (by omega) (by omega) hT (hps 1) e2 k10 (by omega) (by omega) (by omega) (fun t1 M2 k2 => z_f ?_) (fun t1 M2 q q' q3 => z_t (z_t (bad _ _ q3 (hbad _ ⟨0, by omega, al_0, t1, rfl⟩ M2 (cF_1 q q')))))
  have a1 : al (ckH x n p) 1 := al_S al_0 t1
  have f2 : cF M M2 d := cF_N k2 (Or.inl rfl)
  have hT2 := cTx_N hT k2 (by omega) (by omega)
  refine u_rdN (lo := 1) (hi := 6) (c := 1) rfl rfl rfl (by omega) (by omega) hT2 (hps 2) k2.2.2.2 k10 (by omega) (by omega) (by omega) (fun t2 M5 k5 => z_nf ?_) (fun t2 M5 q q' q3 => z_nt (z_t (bad _ _ q3 (hbad _ ⟨1, by omega, a1, t2, rfl⟩ M5 (cF_tr f2 (cF_1 q q'))))))
  have a2 : al (ckH x n p) 2 := al_S a1 t2
  have f5 := cF_tr f2 (cF_N k5 (Or.inl rfl))
  refine ⟨kh, fun M8 e8 M9 e9 => z_f ?_⟩
  rw [c0] at e8
  rw [c1] at e9
  have v0 : M5.1 (1 + 3) 0 = nI (tkV x n (ps x n p 1)) := by rw [k5.2.1, pk_un (by omega), k2.2.1, pk_us]
  have v1 : M8.1 (1 + 3) 1 = nI (tkV x n (ps x n p 2)) := by rw [e8, m_row _ _ _ (by omega), k5.2.1, pk_us]
  rw [v0] at e8
  rw [v1] at e9
  have f9 : cF M M9 d := cF_tr f5 ⟨fun j _ _ g => by rw [e9, m_row _ _ _ (by omega), e8, m_row _ _ _ (by omega)], by rw [e9, m_snd, e8, m_snd]⟩
  have hT9 := cTx_F hT (by omega) f9
  have e92 : M9.1 1 2 = nI (ps x n p 3) := by rw [e9, m_row _ _ _ (by omega), e8, m_row _ _ _ (by omega)]; exact k5.2.2.2
  unfold b_X5_read_105
  refine c161_ok hT9 (hps 3) e92 (fun t3 M' q q' q2 => hok (al_S a2 t3) M' (cF_tr f9 (cF_1 q q')) q2 (fun k k0 k1 => ?_) ?_ ?_ (fun j j1 j2 j3 => ?_)) (fun t3 M' q q' => hbad _ ⟨2, by omega, a2, t3, rfl⟩ M' (cF_tr f9 (cF_1 q q')))
  · rw [q d (by omega), e9, m_col _ _ _ k1, e8, m_col _ _ _ k0, k5.1 d (by omega) (by omega), k2.1 d (by omega) (by omega)]
  · rw [q d (by omega), e9, m_col _ _ _ (by omega), e8, m_same]
  · rw [q d (by omega), e9, m_same]
  · rw [q j (by omega), e9, m_row _ _ _ j1, e8, m_row _ _ _ j1, k5.1 j (by omega) (by omega), k2.1 j (by omega) (by omega)]
