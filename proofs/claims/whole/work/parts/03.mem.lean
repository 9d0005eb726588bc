/-! the memory: what every cell of the two systems holds, by the cell's number (0 .. 80 the class, 81 .. 89 the reference); longs apart -/
abbrev xMem : Type := (Nat → Nat → Int32) × (Nat → Int64)
/-- kinds: 0 .. 9 objects by vwCl, 10 int rows, 11 rows of int rows, 12 the images, 13 booleans -/
def kdL : List Nat := [8, 5, 7, 10, 10, 6, 11, 10, 10, 10, 10, 10, 10, 10, 4, 10, 10, 1, 10, 10, 12, 3, 0, 10, 10, 1, 10, 10, 3, 0, 10, 10, 1, 10, 10, 2, 0, 10, 10, 11, 10, 10, 10, 10, 10, 10, 11, 10, 10, 10, 10, 10, 10, 10, 10, 10, 10, 10, 2, 0, 10, 10, 11, 10, 10, 10, 10, 10, 10, 11, 10, 10, 10, 10, 10, 10, 10, 10, 10, 10, 10, 9, 10, 10, 10, 10, 13, 10, 10, 10]
def kd (i : Nat) : Nat := kdL.getD i 99
def lnL : List Nat := [0, 0, 0, 400, 2, 0, 6, 48, 48, 48, 48, 48, 48, 48, 0, 64, 64, 0, 6, 6, 2, 0, 0, 96, 96, 0, 6, 6, 0, 0, 96, 96, 0, 6, 6, 0, 0, 96, 96, 6, 4, 4, 4, 4, 4, 4, 8, 6, 6, 6, 6, 6, 6, 6, 6, 12, 64, 256, 0, 0, 96, 96, 6, 4, 4, 4, 4, 4, 4, 8, 6, 6, 6, 6, 6, 6, 6, 6, 12, 64, 256, 0, 400, 207, 207, 414, 2, 48, 80, 336]
def ln (i : Nat) : Nat := lnL.getD i 0
def xset (M : xMem) (i k : Nat) (v : Int32) : xMem := (va_up M.1 i (upd (M.1 i) k v), M.2)
def xrow (M : xMem) (i : Nat) (f : Nat → Int32) : xMem := (va_up M.1 i f, M.2)
def xlset (M : xMem) (i : Nat) (v : Int64) : xMem := (M.1, va_up M.2 i v)
abbrev xCs : Type := ClassId × ClassId × ClassId × ClassId
/-- the cell of a number -/
def xcell (a : Nat → Nat) (cs : xCs) (M : xMem) (i : Nat) : va_E := match kd i with
  | 0 => .inr (0, [.ref (a (i + 1)), .ref (a (i + 2)), .int (M.1 i 2), .int (M.1 i 3)])
  | 1 => .inr (1, [.ref (a (i + 1)), .ref (a (i + 2)), .int (M.1 i 2)])
  | 2 => .inr (2, [.int (M.1 i 0), .int (M.1 i 1), .int (M.1 i 2), .int (M.1 i 3), .ref (a (i + 1)), .ref (a (i + 4)), .ref (a (i + 11)), .ref (a (i + 20)), .ref (a (i + 21)), .ref (a (i + 22))])
  | 3 => .inr (3, [.ref (a (i + 1)), .ref (a (i + 4)), .int (M.1 i 2)])
  | 4 => .inr (4, [.ref (a (i + 1)), .ref (a (i + 2)), .int (M.1 i 2), .int (M.1 i 3)])
  | 5 => .inr (5, [.ref (a (i + 1)), .ref (a (i + 3)), .int (M.1 i 2), .int (M.1 i 3), .int (M.1 i 4), .int (M.1 i 5)])
  | 6 => .inr (6, [.ref (a (i + 1)), .ref (a (i + 8)), .int (M.1 i 2)])
  | 7 => .inr (7, [.ref (a (i + 1)), .int (M.1 i 1)])
  | 8 => .inr (8, [.ref (a (i + 1)), .ref (a (i + 5)), .ref (a (i + 14)), .ref (a (i + 17)), .ref (a (i + 20)), .ref (a (M.1 i 5).toNatClampNeg), .ref (a (M.1 i 6).toNatClampNeg), .long (M.2 0)])
  | 9 => .inr (9, [.int (M.1 i 0), .long (M.2 1), .ref (a (i + 1)), .int (M.1 i 3), .int (M.1 i 4), .int (M.1 i 5), .int (M.1 i 6), .int (M.1 i 7), .int (M.1 i 8), .int (M.1 i 9), .int (M.1 i 10), .int (M.1 i 11), .int (M.1 i 12), .int (M.1 i 13), .ref (a (i + 2)), .ref (a (i + 3)), .ref (a (i + 4)), .ref (a (i + 5)), .ref (a (i + 6)), .ref (a (i + 7)), .int (M.1 i 20), .int (M.1 i 21), .int (M.1 i 22), .int (M.1 i 23), .ref (a (i + 8)), .int (M.1 i 25), .int (M.1 i 26)])
  | 10 => .inl (cs.1, ln i, .inl (M.1 i))
  | 11 => .inl (cs.2.1, ln i, .inr (.inr (.inr (.inr (fun j => some (a (i + 1 + j)))))))
  | 12 => .inl (cs.2.2.1, ln i, .inr (.inr (.inr (.inr (fun j => some (a (i + 1 + 7 * j)))))))
  | _ => .inl (cs.2.2.2, ln i, .inl (M.1 i))
def xWd (a : Nat → Nat) (cs : xCs) (M : xMem) : va_W := (List.range 90).map (fun i => (a i, xcell a cs M i))
theorem kd_lt {i k : Nat} (h : kd i = k) (hk : k ≠ 99) : i < 90 := by
  rcases Nat.lt_or_ge i 90 with q | q
  · exact q
  · exfalso
    apply hk
    rw [← h]
    unfold kd
    rw [List.getD_eq_getElem?_getD, List.getElem?_eq_none q]
    rfl
theorem xWd_at {a : Nat → Nat} {cs : xCs} {M : xMem} {i : Nat} (h : i < 90) : (xWd a cs M)[i]? = some (a i, xcell a cs M i) := by
  unfold xWd
  rw [List.getElem?_map, List.getElem?_range h]
  rfl
theorem xWd_len {a : Nat → Nat} {cs : xCs} {M : xMem} : (xWd a cs M).length = 90 := by
  unfold xWd
  rw [List.length_map, List.length_range]
theorem xWd_of {a : Nat → Nat} {cs : xCs} {M : xMem} {k : Nat} {q : Nat × va_E} (h : (xWd a cs M)[k]? = some q) : k < 90 ∧ q = (a k, xcell a cs M k) := by
  have hk : k < 90 := by
    have := (List.getElem?_eq_some_iff.mp h).1
    rw [xWd_len] at this
    exact this
  rw [xWd_at hk] at h
  exact ⟨hk, (Option.some.inj h).symm⟩
theorem xWd_set {a : Nat → Nat} {cs : xCs} {M M' : xMem} {i : Nat} {e : va_E} (hi : i < 90) (he : xcell a cs M' i = e) (ho : ∀ j, j < 90 → j ≠ i → xcell a cs M' j = xcell a cs M j) : (xWd a cs M).set i (a i, e) = xWd a cs M' := by
  apply List.ext_getElem?
  intro k
  by_cases hk : k < 90
  · rw [xWd_at hk, List.getElem?_set]
    by_cases h : i = k
    · subst h
      rw [if_pos rfl, if_pos (by rw [xWd_len]; exact hi), he]
    · rw [if_neg h, xWd_at hk, ho k hk (fun q => h q.symm)]
  · rw [List.getElem?_eq_none (by rw [List.length_set, xWd_len]; omega), List.getElem?_eq_none (by rw [xWd_len]; omega)]
theorem xcell_row {a : Nat → Nat} {cs : xCs} {M : xMem} {i : Nat} {f : Nat → Int32} {j : Nat} (h : j ≠ i) : xcell a cs (xrow M i f) j = xcell a cs M j := by
  have e : (xrow M i f).1 j = M.1 j := va_up_ne _ _ h
  unfold xcell
  rw [e]
  rfl
theorem xset_row (M : xMem) (i k : Nat) (v : Int32) : xset M i k v = xrow M i (upd (M.1 i) k v) := rfl
theorem xrow_at (M : xMem) (i : Nat) (f : Nat → Int32) : (xrow M i f).1 i = f := va_up_self _ _ _
theorem kd_one : ∀ i, i < 90 → (kd i = 8 → i = 0) ∧ (kd i = 9 → i = 81) := by decide
theorem xcell_long {a : Nat → Nat} {cs : xCs} {M : xMem} {n : Nat} {v : Int64} {j : Nat} (hj : j < 90) (h : n = 0 ∧ j ≠ 0 ∨ n = 1 ∧ j ≠ 81) : xcell a cs (xlset M n v) j = xcell a cs M j := by
  have h8 := (kd_one j hj).1
  have h9 := (kd_one j hj).2
  unfold xcell
  split
  · rfl
  · rfl
  · rfl
  · rfl
  · rfl
  · rfl
  · rfl
  · rfl
  · rename_i hk
    have : n ≠ 0 := by
      have := h8 hk
      omega
    have e : (xlset M n v).2 0 = M.2 0 := va_up_ne _ _ (Ne.symm this)
    rw [e]
    rfl
  · rename_i hk
    have : n ≠ 1 := by
      have := h9 hk
      omega
    have e : (xlset M n v).2 1 = M.2 1 := va_up_ne _ _ (Ne.symm this)
    rw [e]
    rfl
  · rfl
  · rfl
  · rfl
  · rfl
