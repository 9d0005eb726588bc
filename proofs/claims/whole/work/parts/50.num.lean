/-! numbers: small facts that every method's text wants -/
theorem q_lit (n : Nat) (h : n < 2147483648) : (OfNat.ofNat n : Int32).toNatClampNeg = n := nI_clamp h
theorem q_litN (n : Nat) : (OfNat.ofNat n : Int32) = nI n := rfl
theorem q_toI (n : Nat) (h : n < 2147483648) : (nI n).toInt = (n : Int) := nI_toInt h
theorem q_inj {a b : Nat} (ha : a < 2147483648) (hb : b < 2147483648) (h : nI a = nI b) : a = b := (nI_eq ha hb).mp h
theorem q_lt (x y : Int32) : x < y ↔ x.toInt < y.toInt := Int32.lt_iff_toInt_lt
theorem q_le (x y : Int32) : x ≤ y ↔ x.toInt ≤ y.toInt := Int32.le_iff_toInt_le
theorem q_eq (x y : Int32) : x = y ↔ x.toInt = y.toInt := Int32.toInt_inj.symm
theorem q_in {k n : Nat} (h : k < n) (hn : n < 2147483648) : vp_in (nI k) n := vp_in_nI h hn
theorem q_inI {x : Int32} {k n : Nat} (e : x = nI k) (h : k < n) (hn : n < 2147483648) : vp_in x n := by rw [e]; exact vp_in_nI h hn
/-- a number between 0 and n - 1 -/
def inN (x : Int32) (n : Nat) : Prop := ∃ k : Nat, k < n ∧ x = nI k
theorem inN_of {x : Int32} {n : Nat} (h0 : 0 ≤ x.toInt) (h1 : x.toInt < n) (hn : n < 2147483648) : inN x n := by
  refine ⟨x.toInt.toNat, by omega, ?_⟩
  apply (q_eq _ _).mpr
  rw [q_toI _ (by omega)]
  omega
theorem inN_toInt {x : Int32} {n : Nat} (h : inN x n) (hn : n < 2147483648) : 0 ≤ x.toInt ∧ x.toInt < n := by
  obtain ⟨k, h1, rfl⟩ := h
  rw [q_toI _ (by omega)]
  omega
/-- the memory, read where it was written and elsewhere -/
theorem m_same (M : xMem) (i k : Nat) (v : Int32) : (xset M i k v).1 i k = v := by simp [xset, va_up, upd]
theorem m_row (M : xMem) {i j : Nat} (k : Nat) (v : Int32) (h : j ≠ i) : (xset M i k v).1 j = M.1 j := by simp [xset, va_up, h]
theorem m_col (M : xMem) (i : Nat) {k n : Nat} (v : Int32) (h : n ≠ k) : (xset M i k v).1 i n = M.1 i n := by simp [xset, va_up, upd, h]
theorem m_at (M : xMem) (i k j n : Nat) (v : Int32) : (xset M i k v).1 j n = if j = i ∧ n = k then v else M.1 j n := by
  by_cases h : j = i
  · subst h
    by_cases h2 : n = k
    · subst h2
      rw [m_same, if_pos ⟨rfl, rfl⟩]
    · rw [m_col _ _ _ h2, if_neg (fun q => h2 q.2)]
  · rw [m_row _ _ _ h, if_neg (fun q => h q.1)]
theorem m_upd (M : xMem) (i k : Nat) (v : Int32) : (xset M i k v).1 i = upd (M.1 i) k v := by simp [xset, va_up]
theorem m_snd (M : xMem) (i k : Nat) (v : Int32) : (xset M i k v).2 = M.2 := rfl
theorem m_lfst (M : xMem) (i : Nat) (v : Int64) : (xlset M i v).1 = M.1 := rfl
theorem m_lsame (M : xMem) (i : Nat) (v : Int64) : (xlset M i v).2 i = v := by simp [xlset, va_up]
theorem m_lne (M : xMem) {i j : Nat} (v : Int64) (h : j ≠ i) : (xlset M i v).2 j = M.2 j := by simp [xlset, va_up, h]
theorem m_rsame (M : xMem) (i : Nat) (f : Nat → Int32) : (xrow M i f).1 i = f := by simp [xrow, va_up]
theorem m_rrow (M : xMem) {i j : Nat} (f : Nat → Int32) (h : j ≠ i) : (xrow M i f).1 j = M.1 j := by simp [xrow, va_up, h]
theorem m_rsnd (M : xMem) (i : Nat) (f : Nat → Int32) : (xrow M i f).2 = M.2 := rfl
/-- branches on what a helper has answered -/
theorem z_f {A B : Prop} (b : B) : ((1 : Int32) = 0 → A) ∧ (¬ (1 : Int32) = 0 → B) := ⟨fun h => absurd h (by decide), fun _ => b⟩
theorem z_t {A B : Prop} (a : A) : ((0 : Int32) = 0 → A) ∧ (¬ (0 : Int32) = 0 → B) := ⟨fun _ => a, fun h => absurd rfl h⟩
theorem z_nf {A B : Prop} (a : A) : (¬ (1 : Int32) = 0 → A) ∧ ((1 : Int32) = 0 → B) := ⟨fun _ => a, fun h => absurd h (by decide)⟩
theorem z_nt {A B : Prop} (b : B) : (¬ (0 : Int32) = 0 → A) ∧ ((0 : Int32) = 0 → B) := ⟨fun h => absurd rfl h, fun _ => b⟩
/-- the class's and the reference's own small questions, by what they answer -/
theorem u_within {M : xMem} {v a b : Int32} {post : Int32 → xMem → Prop} (h1 : a ≤ v → v ≤ b → post 1 M) (h0 : ¬ (a ≤ v ∧ v ≤ b) → post 0 M) : w_X8_within M v a b post := by
  unfold w_X8_within
  refine ⟨fun h => h0 (fun q => ?_), fun h => ⟨fun h2 => h0 (fun q => ?_), fun h2 => h1 (Int32.not_lt.mp h) (Int32.not_lt.mp h2)⟩⟩
  · exact Int32.not_lt.mpr q.1 h
  · exact Int32.not_lt.mpr q.2 h2
theorem u_in {M : xMem} {v a b : Int32} {post : Int32 → xMem → Prop} (h1 : a ≤ v → v ≤ b → post 1 M) (h0 : ¬ (a ≤ v ∧ v ≤ b) → post 0 M) : w_X9_in M v a b post := by
  unfold w_X9_in
  refine ⟨fun h => h0 (fun q => ?_), fun h => ⟨fun h2 => h0 (fun q => ?_), fun h2 => h1 (Int32.not_lt.mp h) (Int32.not_lt.mp h2)⟩⟩
  · exact Int32.not_lt.mpr q.1 h
  · exact Int32.not_lt.mpr q.2 h2
