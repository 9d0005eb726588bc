/-! the reference's tokens -/
def rTx (M : xMem) (n : Nat) (x : Nat → Int32) : Prop := M.1 81 3 = nI n ∧ n ≤ 400 ∧ ∀ i, i < n → M.1 82 i = x i ∧ inN (x i) 256
theorem v_byte {M : xMem} {n q : Nat} {x : Nat → Int32} {post : Int32 → xMem → Prop} (hT : rTx M n x) (hq : q ≤ n) (h1 : q < n → post (x q) M) (h0 : ¬ q < n → post (-1) M) : w_X9_byteAt M (nI q) post := by
  obtain ⟨t1, t2, t3⟩ := hT
  unfold w_X9_byteAt
  rw [t1]
  refine ⟨fun z => h0 (fun y => ?_), fun z => ?_⟩
  · have := (nI_cond (by omega) (by omega)).mp z
    omega
  · have hl : q < n := Nat.lt_of_not_le (fun q2 => z ((nI_cond (by omega) (by omega)).mpr q2))
    have e : M.1 (81 + 1) q = x q := (t3 q hl).1
    rw [nI_clamp (by omega), e]
    exact ⟨vp_in_nI (by omega) (by omega), h1 hl⟩
theorem v_inL {M : xMem} {b : Int32} {post : Int32 → xMem → Prop} (h1 : isL b = true → post 1 M) (h0 : ¬ isL b = true → post 0 M) : w_X9_in M b (97 : Int32) (122 : Int32) post := by
  unfold isL at h1 h0
  rw [decide_eq_true_eq] at h1 h0
  exact u_in (fun x y => h1 ⟨x, y⟩) h0
theorem v_inD {M : xMem} {b : Int32} {post : Int32 → xMem → Prop} (h1 : isD b = true → post 1 M) (h0 : ¬ isD b = true → post 0 M) : w_X9_in M b (48 : Int32) (57 : Int32) post := by
  unfold isD at h1 h0
  rw [decide_eq_true_eq] at h1 h0
  exact u_in (fun x y => h1 ⟨x, y⟩) h0
theorem rTx_of {M M' : xMem} {n : Nat} {x : Nat → Int32} (h : rTx M n x) (e1 : M'.1 81 3 = M.1 81 3) (e2 : M'.1 82 = M.1 82) : rTx M' n x := by
  unfold rTx
  rw [e1, e2]
  exact h
/-- a word as a number -/
def fo : List Int32 → Nat → Nat
  | [], v => v
  | a :: l, v => fo l (256 * v + a.toNatClampNeg)
def wf : List Int32 → Nat → Nat → Nat
  | [], _, v => v
  | a :: l, c, v => wf l (c + 1) (if c < 7 then 256 * v + a.toNatClampNeg else v)
theorem wf_take : ∀ (l : List Int32) (c v : Nat), wf l c v = fo (l.take (7 - c)) v
  | [], c, v => by rw [List.take_nil]; rfl
  | a :: l, c, v => by
    show wf l (c + 1) (if c < 7 then 256 * v + a.toNatClampNeg else v) = _
    rw [wf_take l (c + 1)]
    by_cases h : c < 7
    · rw [if_pos h, show 7 - c = (7 - (c + 1)) + 1 by omega, List.take_succ_cons]
      rfl
    · rw [if_neg h, show 7 - c = 0 by omega, show 7 - (c + 1) = 0 by omega, List.take_zero, List.take_zero]
def dg (a : Int32) : Prop := ∃ k, 1 ≤ k ∧ k < 256 ∧ a = nI k
theorem fo_ub : ∀ (l : List Int32) (v : Nat), (∀ a, a ∈ l → dg a) → fo l v + 1 ≤ (v + 1) * 256 ^ l.length
  | [], v, _ => by simp [fo]
  | a :: l, v, h => by
    obtain ⟨k, k1, k2, rfl⟩ := h a List.mem_cons_self
    have ih := fo_ub l (256 * v + k) (fun b hb => h b (List.mem_cons_of_mem _ hb))
    show fo l (256 * v + (nI k).toNatClampNeg) + 1 ≤ (v + 1) * 256 ^ (l.length + 1)
    rw [nI_clamp (by omega), Nat.pow_succ, ← Nat.mul_assoc, Nat.mul_right_comm]
    exact Nat.le_trans ih (Nat.mul_le_mul_right _ (by omega))
theorem fo_lb : ∀ (l : List Int32) (v : Nat), (∀ a, a ∈ l → dg a) → v * 256 ^ l.length ≤ fo l v
  | [], v, _ => by simp [fo]
  | a :: l, v, h => by
    obtain ⟨k, k1, k2, rfl⟩ := h a List.mem_cons_self
    have ih := fo_lb l (256 * v + k) (fun b hb => h b (List.mem_cons_of_mem _ hb))
    show v * 256 ^ (l.length + 1) ≤ fo l (256 * v + (nI k).toNatClampNeg)
    rw [nI_clamp (by omega), Nat.pow_succ, ← Nat.mul_assoc, Nat.mul_right_comm]
    exact Nat.le_trans (Nat.mul_le_mul_right _ (by omega)) ih
theorem fo_inj : ∀ (l m : List Int32) (v w : Nat), l.length = m.length → (∀ a, a ∈ l → dg a) → (∀ a, a ∈ m → dg a) → fo l v = fo m w → v = w ∧ l = m
  | [], [], v, w, _, _, _, h => ⟨h, rfl⟩
  | [], _ :: _, _, _, h, _, _, _ => absurd h (by simp)
  | _ :: _, [], _, _, h, _, _, _ => absurd h (by simp)
  | a :: l, b :: m, v, w, h, h1, h2, h3 => by
    obtain ⟨k, k1, k2, rfl⟩ := h1 a List.mem_cons_self
    obtain ⟨j, j1, j2, rfl⟩ := h2 b List.mem_cons_self
    have h3' : fo l (256 * v + (nI k).toNatClampNeg) = fo m (256 * w + (nI j).toNatClampNeg) := h3
    rw [nI_clamp (by omega), nI_clamp (by omega)] at h3'
    obtain ⟨e1, e2⟩ := fo_inj l m _ _ (by simp at h; exact h) (fun x hx => h1 x (List.mem_cons_of_mem _ hx)) (fun x hx => h2 x (List.mem_cons_of_mem _ hx)) h3'
    have e3 : k = j := by omega
    exact ⟨by omega, by rw [e2, e3]⟩
theorem fo_len {l m : List Int32} (h1 : ∀ a, a ∈ l → dg a) (h2 : ∀ a, a ∈ m → dg a) (h : l.length < m.length) : fo l 0 < fo m 0 := by
  match m, h2, h with
  | b :: m, h2, h =>
    obtain ⟨j, j1, j2, rfl⟩ := h2 b List.mem_cons_self
    have a := fo_ub l 0 h1
    have c := fo_lb m j (fun x hx => h2 x (List.mem_cons_of_mem _ hx))
    have e : fo (nI j :: m) 0 = fo m j := by
      show fo m (256 * 0 + (nI j).toNatClampNeg) = fo m j
      rw [nI_clamp (by omega), Nat.mul_zero, Nat.zero_add]
    have p : 256 ^ l.length ≤ 256 ^ m.length := Nat.pow_le_pow_right (by decide) (by simp at h; omega)
    have q : 256 ^ m.length ≤ j * 256 ^ m.length := Nat.le_mul_of_pos_left _ j1
    rw [e]
    omega
theorem fo_eq {l m : List Int32} (h1 : ∀ a, a ∈ l → dg a) (h2 : ∀ a, a ∈ m → dg a) (h : fo l 0 = fo m 0) : l = m := by
  rcases Nat.lt_trichotomy l.length m.length with e | e | e
  · have := fo_len h1 h2 e
    omega
  · exact (fo_inj l m 0 0 e h1 h2 h).2
  · have := fo_len h2 h1 e
    omega
theorem wf_eq {l m : List Int32} (h1 : ∀ a, a ∈ l → dg a) (h2 : ∀ a, a ∈ m → dg a) (hm : m.length ≤ 6) : wf l 0 0 = fo m 0 ↔ l = m := by
  rw [wf_take, Nat.sub_zero]
  constructor
  · intro h
    have e := fo_eq (fun a ha => h1 a (List.mem_of_mem_take ha)) h2 h
    have el : (l.take 7).length = m.length := by rw [e]
    rw [List.length_take] at el
    rw [List.take_of_length_le (by omega)] at e
    exact e
  · intro h
    rw [h, List.take_of_length_le (by omega)]
theorem wf_lt {l : List Int32} (h1 : ∀ a, a ∈ l → dg a) : wf l 0 0 < 2 ^ 56 := by
  rw [wf_take, Nat.sub_zero]
  have a := fo_ub (l.take 7) 0 (fun a ha => h1 a (List.mem_of_mem_take ha))
  have p : 256 ^ (l.take 7).length ≤ 256 ^ 7 := Nat.pow_le_pow_right (by decide) (by rw [List.length_take]; omega)
  have e : (256 : Nat) ^ 7 = 2 ^ 56 := by decide
  omega
theorem cmp0 {a b : Nat} (ha : a < 2 ^ 56) (hb : b < 2 ^ 56) : lg_cmp (lN a) (lN b) = 0 ↔ a = b := by
  have inj : lN a = lN b → a = b := fun h => by
    have := congrArg (fun z : Int64 => z.toBitVec.toNat) h
    have this : (lN a).toBitVec.toNat = (lN b).toBitVec.toNat := this
    have nat : ∀ c, c < 2 ^ 56 → (lN c).toBitVec.toNat = c := fun c hc => by
      show (BitVec.ofNat 64 c).toNat = c
      rw [BitVec.toNat_ofNat, Nat.mod_eq_of_lt (by omega)]
    rw [nat a ha, nat b hb] at this
    exact this
  have self : lg_cmp (lN a) (lN a) = 0 := by simp [lg_cmp]
  constructor
  · intro h
    unfold lg_cmp at h
    split at h
    · exact absurd h (by decide)
    · split at h
      · next e => exact inj e
      · exact absurd h (by decide)
  · intro h
    rw [← h]
    exact self
/-- what is added letter by letter -/
def ad (v c : Nat) : Nat := if c = 0 then v else 256 * v + c
theorem v_add {M : xMem} {v c : Nat} {post : Int64 → xMem → Prop} (hc : c < 256) (h : post (lN (ad v c)) M) : w_X9_add M (lN v) (nI c) post := by
  unfold ad at h
  unfold w_X9_add
  refine ⟨fun n => ?_, fun z => ?_⟩
  · rw [if_neg (fun e => n (by rw [e]; rfl))] at h
    rw [nI_l (by omega), show (256 : Int64) = lN 256 from rfl, lN_mul, lN_add]
    exact h
  · rw [if_pos (q_inj (a := c) (b := 0) (by omega) (by omega) z)] at h
    exact h
theorem v_named {M : xMem} (a b c d e f : Nat) {p0 p1 p2 p3 p4 p5 : Int32} {post : Int64 → xMem → Prop} (e0 : p0 = nI a) (e1 : p1 = nI b) (e2 : p2 = nI c) (e3 : p3 = nI d) (e4 : p4 = nI e) (e5 : p5 = nI f) (hb : (a < 256 ∧ b < 256 ∧ c < 256) ∧ d < 256 ∧ e < 256 ∧ f < 256) (h : post (lN (ad (ad (ad (ad (ad (ad 0 a) b) c) d) e) f)) M) : w_X9_named M p0 p1 p2 p3 p4 p5 post := by
  subst e0
  subst e1
  subst e2
  subst e3
  subst e4
  subst e5
  unfold w_X9_named
  rw [show (0 : Int64) = lN 0 from rfl]
  exact v_add (by omega) (v_add (by omega) (v_add (by omega) (v_add (by omega) (v_add (by omega) (v_add (by omega) h)))))
def rTk (c : Nat) : Nat := if c = 0 then 0 else if c = 1 then 4 else if c = 2 then 2 else if c = 3 then 3 else 1
def rVl (c : Nat) : Int32 := [(-9 : Int32), -9, -9, -9, 0, 1, 2, 3, 6, 7, 8, 9, 4, 5].getD c (-9)
theorem v_wordOf {M : xMem} {l : List Int32} {post : Int32 → xMem → Prop} (hl : ∀ a, a ∈ l → dg a) (h : post (rVl (wcode l)) M) : w_X9_wordOf M (lN (wf l 0 0)) post := by
  have wlt := wf_lt hl
  have hw : ∀ k, k < 10 → (wds k).length ≤ 6 ∧ fo (wds k) 0 < 2 ^ 56 ∧ ∀ a, a ∈ wds k → 1 ≤ a.toNatClampNeg ∧ a.toNatClampNeg < 256 ∧ a = nI a.toNatClampNeg := by decide
  have key : ∀ k, k < 10 → ∀ N, N = fo (wds k) 0 → (lg_cmp (lN (wf l 0 0)) (lN N) = 0 ↔ l = wds k) := fun k hk N eN => by
    obtain ⟨a1, a2, a3⟩ := hw k hk
    rw [cmp0 wlt (by rw [eN]; exact a2), eN]
    exact wf_eq hl (fun a ha => by
      obtain ⟨q1, q2, q3⟩ := a3 a ha
      exact ⟨_, q1, q2, q3⟩) a1
  unfold wcode at h
  unfold w_X9_wordOf
  refine v_named 104 105 108 108 0 0 rfl rfl rfl rfl rfl rfl (by decide) ⟨fun n0 => ?_, fun y0 => ?_⟩
  rotate_left
  · have c := (key 0 (by omega) _ (by decide)).mp y0
    rw [if_pos c] at h
    unfold b_X9_wordOf_90
    exact ⟨fun q => absurd q (by decide), fun _ => h⟩
  have c0 : l ≠ wds 0 := fun z => n0 ((key 0 (by omega) _ (by decide)).mpr z)
  rw [if_neg c0] at h
  refine v_named 119 97 108 108 0 0 rfl rfl rfl rfl rfl rfl (by decide) ⟨fun n1 => ?_, fun y1 => ?_⟩
  rotate_left
  · have c := (key 1 (by omega) _ (by decide)).mp y1
    rw [if_pos c] at h
    unfold b_X9_wordOf_90
    exact ⟨fun q => absurd q (by decide), fun _ => h⟩
  have c1 : l ≠ wds 1 := fun z => n1 ((key 1 (by omega) _ (by decide)).mpr z)
  rw [if_neg c1] at h
  refine v_named 102 101 108 116 0 0 rfl rfl rfl rfl rfl rfl (by decide) ⟨fun n2 => ?_, fun y2 => ?_⟩
  rotate_left
  · have c := (key 2 (by omega) _ (by decide)).mp y2
    rw [if_pos c] at h
    unfold b_X9_wordOf_90
    exact ⟨fun q => absurd q (by decide), fun _ => h⟩
  have c2 : l ≠ wds 2 := fun z => n2 ((key 2 (by omega) _ (by decide)).mpr z)
  rw [if_neg c2] at h
  refine v_named 119 105 110 100 0 0 rfl rfl rfl rfl rfl rfl (by decide) ⟨fun n3 => ?_, fun y3 => ?_⟩
  rotate_left
  · have c := (key 3 (by omega) _ (by decide)).mp y3
    rw [if_pos c] at h
    unfold b_X9_wordOf_90
    exact ⟨fun q => absurd q (by decide), fun _ => h⟩
  have c3 : l ≠ wds 3 := fun z => n3 ((key 3 (by omega) _ (by decide)).mpr z)
  rw [if_neg c3] at h
  unfold b_X9_wordOf_90
  refine ⟨fun _ => ?_, fun q => absurd rfl q⟩
  refine v_named 119 111 114 107 101 114 rfl rfl rfl rfl rfl rfl (by decide) ⟨fun n8 => ?_, fun y8 => ?_⟩
  rotate_left
  · have c := (key 8 (by omega) _ (by decide)).mp y8
    have e : ∀ k, k < 8 → wds 8 ≠ wds k := by decide
    rw [c, if_neg (e 4 (by omega)), if_neg (e 5 (by omega)), if_neg (e 6 (by omega)), if_neg (e 7 (by omega)), if_pos rfl] at h
    unfold b_X9_wordOf_171
    exact ⟨fun q => absurd q (by decide), fun _ => h⟩
  have c8 : l ≠ wds 8 := fun z => n8 ((key 8 (by omega) _ (by decide)).mpr z)
  rw [if_neg c8] at h
  refine v_named 100 101 101 100 0 0 rfl rfl rfl rfl rfl rfl (by decide) ⟨fun n9 => ?_, fun y9 => ?_⟩
  rotate_left
  · have c := (key 9 (by omega) _ (by decide)).mp y9
    have e : ∀ k, k < 8 → wds 9 ≠ wds k := by decide
    rw [c, if_neg (e 4 (by omega)), if_neg (e 5 (by omega)), if_neg (e 6 (by omega)), if_neg (e 7 (by omega)), if_pos rfl] at h
    unfold b_X9_wordOf_171
    exact ⟨fun q => absurd q (by decide), fun _ => h⟩
  have c9 : l ≠ wds 9 := fun z => n9 ((key 9 (by omega) _ (by decide)).mpr z)
  rw [if_neg c9] at h
  refine v_named 114 105 103 104 116 0 rfl rfl rfl rfl rfl rfl (by decide) ⟨fun n4 => ?_, fun y4 => ?_⟩
  rotate_left
  · have c := (key 4 (by omega) _ (by decide)).mp y4
    rw [if_pos c] at h
    unfold b_X9_wordOf_171
    exact ⟨fun q => absurd q (by decide), fun _ => h⟩
  have c4 : l ≠ wds 4 := fun z => n4 ((key 4 (by omega) _ (by decide)).mpr z)
  rw [if_neg c4] at h
  unfold b_X9_wordOf_171
  refine ⟨fun _ => ?_, fun q => absurd rfl q⟩
  refine v_named 108 101 102 116 0 0 rfl rfl rfl rfl rfl rfl (by decide) ⟨fun n5 => ?_, fun y5 => ?_⟩
  rotate_left
  · have c := (key 5 (by omega) _ (by decide)).mp y5
    rw [if_pos c] at h
    exact h
  have c5 : l ≠ wds 5 := fun z => n5 ((key 5 (by omega) _ (by decide)).mpr z)
  rw [if_neg c5] at h
  refine v_named 100 111 119 110 0 0 rfl rfl rfl rfl rfl rfl (by decide) ⟨fun n6 => ?_, fun y6 => ?_⟩
  rotate_left
  · have c := (key 6 (by omega) _ (by decide)).mp y6
    rw [if_pos c] at h
    exact h
  have c6 : l ≠ wds 6 := fun z => n6 ((key 6 (by omega) _ (by decide)).mpr z)
  rw [if_neg c6] at h
  refine v_named 117 112 0 0 0 0 rfl rfl rfl rfl rfl rfl (by decide) ⟨fun n7 => ?_, fun y7 => ?_⟩
  rotate_left
  · have c := (key 7 (by omega) _ (by decide)).mp y7
    rw [if_pos c] at h
    exact h
  have c7 : l ≠ wds 7 := fun z => n7 ((key 7 (by omega) _ (by decide)).mpr z)
  rw [if_neg c7] at h
  exact h
