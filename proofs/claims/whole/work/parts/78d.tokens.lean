/-! tokens: what a text's bytes x, n of them, hold from a place p on -/
def isB (b : Int32) : Bool := decide (b = 32)
def isL (b : Int32) : Bool := decide ((97 : Int32) ≤ b ∧ b ≤ (122 : Int32))
def isD (b : Int32) : Bool := decide ((48 : Int32) ≤ b ∧ b ≤ (57 : Int32))
def endF (f : Int32 → Bool) (x : Nat → Int32) (n : Nat) : Nat → Nat → Nat
  | 0, p => p
  | k + 1, p => if p < n ∧ f (x p) = true then endF f x n k (p + 1) else p
def endO (f : Int32 → Bool) (x : Nat → Int32) (n p : Nat) : Nat := endF f x n (n - p) p
theorem endO_go {f : Int32 → Bool} {x : Nat → Int32} {n p : Nat} (h1 : p < n) (h2 : f (x p) = true) : endO f x n (p + 1) = endO f x n p := by
  unfold endO
  rw [show n - p = (n - (p + 1)) + 1 by omega]
  show _ = (if p < n ∧ f (x p) = true then endF f x n (n - (p + 1)) (p + 1) else p)
  rw [if_pos ⟨h1, h2⟩]
theorem endO_stop {f : Int32 → Bool} {x : Nat → Int32} {n p : Nat} (h : ¬ (p < n ∧ f (x p) = true)) : endO f x n p = p := by
  unfold endO
  cases hk : n - p with
  | zero => rfl
  | succ k =>
    show (if p < n ∧ f (x p) = true then endF f x n k (p + 1) else p) = p
    rw [if_neg h]
theorem endF_le {f : Int32 → Bool} {x : Nat → Int32} {n : Nat} : ∀ k p, p ≤ n → p ≤ endF f x n k p ∧ endF f x n k p ≤ n
  | 0, _, h => ⟨Nat.le_refl _, h⟩
  | k + 1, p, h => by
    show p ≤ (if p < n ∧ f (x p) = true then endF f x n k (p + 1) else p) ∧ (if p < n ∧ f (x p) = true then endF f x n k (p + 1) else p) ≤ n
    by_cases c : p < n ∧ f (x p) = true
    · rw [if_pos c]
      have := endF_le (f := f) (x := x) k (p + 1) c.1
      omega
    · rw [if_neg c]
      exact ⟨Nat.le_refl _, h⟩
theorem endO_le {f : Int32 → Bool} {x : Nat → Int32} {n p : Nat} (h : p ≤ n) : p ≤ endO f x n p ∧ endO f x n p ≤ n := endF_le _ p h
/-- letters -/
def ltF (x : Nat → Int32) (n : Nat) : Nat → Nat → List Int32
  | 0, _ => []
  | k + 1, p => if p < n ∧ isL (x p) = true then x p :: ltF x n k (p + 1) else []
def ltO (x : Nat → Int32) (n p : Nat) : List Int32 := ltF x n (n - p) p
theorem ltO_go {x : Nat → Int32} {n p : Nat} (h1 : p < n) (h2 : isL (x p) = true) : ltO x n p = x p :: ltO x n (p + 1) := by
  unfold ltO
  rw [show n - p = (n - (p + 1)) + 1 by omega]
  show (if p < n ∧ isL (x p) = true then x p :: ltF x n (n - (p + 1)) (p + 1) else []) = _
  rw [if_pos ⟨h1, h2⟩]
theorem ltO_stop {x : Nat → Int32} {n p : Nat} (h : ¬ (p < n ∧ isL (x p) = true)) : ltO x n p = [] := by
  unfold ltO
  cases hk : n - p with
  | zero => rfl
  | succ k =>
    show (if p < n ∧ isL (x p) = true then x p :: ltF x n k (p + 1) else []) = []
    rw [if_neg h]
theorem ltO_spec {x : Nat → Int32} {n : Nat} : ∀ k p, n - p = k → p ≤ n → endO isL x n p = p + (ltO x n p).length ∧ ∀ i, i < (ltO x n p).length → (ltO x n p).getD i 0 = x (p + i) ∧ p + i < n ∧ isL (x (p + i)) = true
  | 0, p, hk, hp => by
    have c : ¬ (p < n ∧ isL (x p) = true) := fun z => by omega
    rw [ltO_stop c, endO_stop c]
    exact ⟨rfl, fun i hi => absurd hi (Nat.not_lt_zero _)⟩
  | k + 1, p, hk, hp => by
    by_cases c : p < n ∧ isL (x p) = true
    · obtain ⟨a, b⟩ := ltO_spec (x := x) (n := n) k (p + 1) (by omega) (by omega)
      rw [ltO_go c.1 c.2, ← endO_go c.1 c.2, a]
      refine ⟨by rw [List.length_cons]; omega, fun i hi => ?_⟩
      match i with
      | 0 => exact ⟨rfl, c⟩
      | i + 1 =>
        rw [List.length_cons] at hi
        have := b i (by omega)
        rw [show p + (i + 1) = p + 1 + i by omega]
        exact this
    · rw [ltO_stop c, endO_stop c]
      exact ⟨rfl, fun i hi => absurd hi (Nat.not_lt_zero _)⟩
/-- numbers -/
def nvF (x : Nat → Int32) (n : Nat) : Nat → Nat → Nat → Nat
  | 0, _, v => v
  | k + 1, p, v => if p < n ∧ isD (x p) = true then nvF x n k (p + 1) (if v ≤ 99 then 10 * v + (x p).toNatClampNeg - 48 else v) else v
def nvO (x : Nat → Int32) (n p v : Nat) : Nat := nvF x n (n - p) p v
theorem nvO_go {x : Nat → Int32} {n p v : Nat} (h1 : p < n) (h2 : isD (x p) = true) : nvO x n (p + 1) (if v ≤ 99 then 10 * v + (x p).toNatClampNeg - 48 else v) = nvO x n p v := by
  unfold nvO
  rw [show n - p = (n - (p + 1)) + 1 by omega]
  show _ = (if p < n ∧ isD (x p) = true then nvF x n (n - (p + 1)) (p + 1) (if v ≤ 99 then 10 * v + (x p).toNatClampNeg - 48 else v) else v)
  rw [if_pos (show p < n ∧ isD (x p) = true from ⟨h1, h2⟩)]
theorem nvO_stop {x : Nat → Int32} {n p v : Nat} (h : ¬ (p < n ∧ isD (x p) = true)) : nvO x n p v = v := by
  unfold nvO
  cases hk : n - p with
  | zero => rfl
  | succ k =>
    show (if p < n ∧ isD (x p) = true then nvF x n k (p + 1) (if v ≤ 99 then 10 * v + (x p).toNatClampNeg - 48 else v) else v) = v
    rw [if_neg h]
theorem isD_iff {b : Int32} : isD b = true ↔ ∃ k, 48 ≤ k ∧ k ≤ 57 ∧ b = nI k := by
  unfold isD
  rw [decide_eq_true_eq]
  constructor
  · rintro ⟨h1, h2⟩
    rw [q_le] at h1 h2
    have e1 : (48 : Int32).toInt = 48 := by decide
    have e2 : (57 : Int32).toInt = 57 := by decide
    refine ⟨b.toInt.toNat, by omega, by omega, ?_⟩
    apply (q_eq _ _).mpr
    rw [q_toI _ (by omega)]
    omega
  · rintro ⟨k, h1, h2, rfl⟩
    exact ⟨nI_le (a := 48) h1 (by omega), nI_le (b := 57) h2 (by omega)⟩
theorem isL_iff {b : Int32} : isL b = true ↔ ∃ k, 97 ≤ k ∧ k ≤ 122 ∧ b = nI k := by
  unfold isL
  rw [decide_eq_true_eq]
  constructor
  · rintro ⟨h1, h2⟩
    rw [q_le] at h1 h2
    have e1 : (97 : Int32).toInt = 97 := by decide
    have e2 : (122 : Int32).toInt = 122 := by decide
    refine ⟨b.toInt.toNat, by omega, by omega, ?_⟩
    apply (q_eq _ _).mpr
    rw [q_toI _ (by omega)]
    omega
  · rintro ⟨k, h1, h2, rfl⟩
    exact ⟨nI_le (a := 97) h1 (by omega), nI_le (b := 122) h2 (by omega)⟩
/-- words -/
def wds (k : Nat) : List Int32 := xsBy.getD k []
def wcode (l : List Int32) : Nat := if l = wds 0 then 4 else if l = wds 1 then 5 else if l = wds 2 then 6 else if l = wds 3 then 7 else if l = wds 4 then 8 else if l = wds 5 then 9 else if l = wds 6 then 10 else if l = wds 7 then 11 else if l = wds 8 then 12 else if l = wds 9 then 13 else 1
/-- a token: where it starts, what it is, where it ends, a number's value -/
def tkS (x : Nat → Int32) (n p : Nat) : Nat := endO isB x n p
def tkE (x : Nat → Int32) (n p : Nat) : Nat := if tkS x n p < n then (if isL (x (tkS x n p)) = true then endO isL x n (tkS x n p) else if isD (x (tkS x n p)) = true then endO isD x n (tkS x n p) else tkS x n p + 1) else tkS x n p
def tkV (x : Nat → Int32) (n p : Nat) : Nat := nvO x n (tkS x n p) 0
def tkC (x : Nat → Int32) (n p : Nat) : Nat := if tkS x n p < n then (if isL (x (tkS x n p)) = true then wcode (ltO x n (tkS x n p)) else if isD (x (tkS x n p)) = true then (if x (tkS x n p) = 48 ∧ 1 < endO isD x n (tkS x n p) - tkS x n p then 1 else if 99 < tkV x n p then 1 else 2) else if x (tkS x n p) = 59 then 3 else 1) else 0
theorem tkS_le {x : Nat → Int32} {n p : Nat} (h : p ≤ n) : p ≤ tkS x n p ∧ tkS x n p ≤ n := endO_le h
theorem tkE_le {x : Nat → Int32} {n p : Nat} (h : p ≤ n) : tkS x n p ≤ tkE x n p ∧ tkE x n p ≤ n := by
  have := tkS_le (x := x) h
  unfold tkE
  by_cases c : tkS x n p < n
  · rw [if_pos c]
    by_cases l : isL (x (tkS x n p)) = true
    · rw [if_pos l]
      exact endO_le this.2
    · rw [if_neg l]
      by_cases d : isD (x (tkS x n p)) = true
      · rw [if_pos d]
        exact endO_le this.2
      · rw [if_neg d]
        omega
  · rw [if_neg c]
    omega
theorem tkE_lt {x : Nat → Int32} {n p : Nat} (h : p ≤ n) (h0 : tkC x n p ≠ 0) : p < tkE x n p := by
  have hs := tkS_le (x := x) h
  have c : tkS x n p < n := Classical.byContradiction (fun z => h0 (by unfold tkC; rw [if_neg z]))
  unfold tkE
  rw [if_pos c]
  by_cases l : isL (x (tkS x n p)) = true
  · rw [if_pos l, ← endO_go c l]
    have := endO_le (f := isL) (x := x) (n := n) (p := tkS x n p + 1) c
    omega
  · rw [if_neg l]
    by_cases d : isD (x (tkS x n p)) = true
    · rw [if_pos d, ← endO_go c d]
      have := endO_le (f := isD) (x := x) (n := n) (p := tkS x n p + 1) c
      omega
    · rw [if_neg d]
      omega
theorem wcode_le (l : List Int32) : (4 ≤ wcode l ∧ wcode l ≤ 13) ∨ wcode l = 1 := by
  unfold wcode
  repeat' split
  all_goals omega
theorem tkC_le {x : Nat → Int32} {n p : Nat} : tkC x n p ≤ 13 := by
  unfold tkC
  split
  · split
    · have := wcode_le (ltO x n (tkS x n p))
      omega
    · repeat' split
      all_goals omega
  · omega
theorem tkV_le {x : Nat → Int32} {n p : Nat} (h : tkC x n p = 2) : tkV x n p ≤ 99 := by
  unfold tkC at h
  split at h
  · split at h
    · have := wcode_le (ltO x n (tkS x n p))
      omega
    · split at h
      · split at h
        · omega
        · split at h
          · omega
          · omega
      · split at h
        · omega
        · omega
  · omega
