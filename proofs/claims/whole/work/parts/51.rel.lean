/-! what the class's memory and the reference's have to do with one another -/
/-- the hill's size, the fade, how many workers and deeds -/
def rB (w hg f nw nd : Nat) : Prop := (1 ≤ w ∧ w ≤ 8) ∧ (1 ≤ hg ∧ hg ≤ 6) ∧ (1 ≤ f ∧ f ≤ 9) ∧ nw ≤ 6 ∧ nd ≤ 8
/-- the text: n bytes, the same in both -/
def rT (x3 : Nat → Int32) (x2 y3 : Int32) (y1 : Nat → Int32) : Prop := ∃ n : Nat, n ≤ 400 ∧ x2 = nI n ∧ y3 = nI n ∧ ∀ i, i < n → x3 i = y1 i ∧ inN (y1 i) 256
/-- the reference's rows: between yards, workers, deeds -/
def rS (s : Nat → Int32) : Prop := (∀ b, b < 96 → inN (s b) 4) ∧ (∀ b, b < 96 → inN (s (96 + b)) 10) ∧ (-2 ≤ (s 192).toInt ∧ (s 192).toInt ≤ 2) ∧ (-2 ≤ (s 193).toInt ∧ (s 193).toInt ≤ 2)
def rW (n nw : Nat) (k : Nat → Int32) : Prop := ∀ i, i < nw → inN (k (4 * i)) n ∧ inN (k (4 * i + 1)) 100 ∧ k (4 * i + 1) ≠ 0 ∧ inN (k (4 * i + 2)) 5 ∧ inN (k (4 * i + 3)) 100
def rD (n nd : Nat) (k : Nat → Int32) : Prop := ∀ i, i < nd → inN (k (5 * i)) n ∧ inN (k (5 * i + 1)) 12 ∧ inN (k (5 * i + 2)) 12 ∧ (k (5 * i + 1)).toInt ≤ (k (5 * i + 2)).toInt ∧ inN (k (5 * i + 3)) 100 ∧ inN (k (5 * i + 4)) 100
/-- the ground: borders 2 A and 2 A + 1 of the class are the places A and 48 + A of the reference's row -/
def rG (wl ft : Nat → Int32) (gr gd : Int32) (s : Nat → Int32) : Prop := (∀ a, a < 48 → wl (2 * a) = s a ∧ wl (2 * a + 1) = s (48 + a)) ∧ (∀ a, a < 48 → ft (2 * a) = s (96 + a) ∧ ft (2 * a + 1) = s (144 + a)) ∧ gr = s 192 ∧ gd = s 193
/-- hearsay: at most six, each in a yard of the hill -/
def rH (n : Nat) (t : Int32) (ys ls : Nat → Int32) (s : Nat → Int32) : Prop := ∃ k : Nat, k ≤ 6 ∧ t = nI k ∧ s 194 = nI k ∧ ∀ i, i < k → ys i = s (195 + 2 * i) ∧ ls i = s (196 + 2 * i) ∧ inN (s (195 + 2 * i)) n ∧ inN (s (196 + 2 * i)) 1000
/-- which hours a deed holds in -/
def dHold (dd : Nat → Int32) (d : Nat) (h : Nat) : Prop := ((dd (5 * d + 1)).toInt ≤ h ∧ (h : Int) ≤ (dd (5 * d + 2)).toInt) ∧ ∀ e, e < d → ¬ (dd (5 * e) = dd (5 * d) ∧ (dd (5 * e + 1)).toInt ≤ h ∧ (h : Int) ≤ (dd (5 * e + 2)).toInt)
/-- bits: bit j of x is set just when P j -/
def bitsOf (x : Int32) (n : Nat) (P : Nat → Prop) : Prop := ∃ k : Nat, k < 2 ^ n ∧ x = nI k ∧ ∀ j, j < n → (k.testBit j = true ↔ P j)
/-- sums over the bits of a set, from the lowest on -/
def sumB (v : Nat → Int32) (s : Nat) : Nat → Int32
  | 0 => 0
  | n + 1 => if s.testBit n = true then sumB v s n + v n else sumB v s n
/-- the class's hill: as the reference has it, and its tables -/
def rX (w hg nw nd : Nat) (c : Nat → Nat → Int32) (wk dd : Nat → Int32) : Prop := (c 0 0 = nI w ∧ c 0 1 = nI hg ∧ c 0 2 = nI nw ∧ c 0 3 = nI nd) ∧ (∀ i k, i < nw → k < 4 → c (5 + i) k = wk (4 * i + k)) ∧ (∀ i k, i < nd → k < 5 → c (12 + i) k = dd (5 * i + k)) ∧
  (∀ h, h < 12 → bitsOf (c 20 h) nd (fun d => dHold dd d h)) ∧ (∀ i, i < nd → bitsOf (c (12 + i) 5) 12 (fun h => dHold dd i h)) ∧ (∀ s, s < 2 ^ nw → c 21 s = sumB (fun i => wk (4 * i + 3)) s nw) ∧ (∀ s, s < 2 ^ nd → c 22 s = sumB (fun i => dd (5 * i + 4)) s nd)
/-- neighbours; what comes through a border -/
def nbE (w : Nat) (a b : Nat) : Prop := (b = a + w ∨ a = b + w) ∨ (b = a + 1 ∧ a % w < w - 1) ∨ (a = b + 1 ∧ b % w < w - 1)
def nbAl (w : Nat) (a b : Nat) : Bool := decide (b = a + w) || decide (a = b + w)
def lessI (f : Nat) (wind : Int) : Nat := (max 1 ((f : Int) - wind)).toNat
def passN (w f : Nat) (s : Nat → Int32) (a b v : Nat) : Nat :=
  let al := nbAl w a b
  let wd := (s (if al then 193 else 192)).toInt
  let at_ := (if a < b then a else b) + (if al then 48 else 0)
  (v - lessI f (if a < b then wd else -wd)) / 2 ^ (s at_).toNatClampNeg - (s (96 + at_)).toNatClampNeg
/-- a row holds how loud it is everywhere -/
def rL (w hg f : Nat) (s : Nat → Int32) (src z : Nat) (row : Nat → Int32) : Prop := ∃ T : Nat → Nat, sp_L (w * hg) (nbE w) (passN w f s) src z T ∧ ∀ y, y < w * hg → row y = nI (T y)
/-- what is heard in a yard of a set: all of it, or of others alone -/
def heardS (lf : Nat → Nat → Int32) (wk : Nat → Int32) (y : Nat) (others : Bool) (s : Nat) : Nat → Int32
  | 0 => 0
  | n + 1 => if s.testBit n = true ∧ ¬ (others = true ∧ wk (4 * n) = nI y) then heardS lf wk y others s n + lf n y else heardS lf wk y others s n
/-- which deeds a set would break if they held -/
def rBr (nw nd : Nat) (br : Nat → Int32) (lf : Nat → Nat → Int32) (wk dd : Nat → Int32) : Prop := ∀ s, s < 2 ^ nw → bitsOf (br s) nd (fun d => (dd (5 * d + 3)).toInt < (heardS lf wk (dd (5 * d)).toNatClampNeg true s nw).toInt)
/-- an image -/
def rI (n : Nat) (kept : Int32) (flag : Int32) (wl ft : Nat → Int32) (gr gd t : Int32) (ys ls : Nat → Int32) (s : Nat → Int32) : Prop := kept = flag ∧ (flag = 0 ∨ flag = 1 ∧ rS s ∧ rG wl ft gr gd s ∧ rH n t ys ls s)
/-- the sums of the empty set, that nobody ever writes -/
def rZ (M : xMem) : Prop := M.1 16 0 = 0 ∧ M.1 56 0 = 0 ∧ M.1 57 0 = 0 ∧ M.1 79 0 = 0 ∧ M.1 80 0 = 0
/-- all of it -/
def Rel (M : xMem) (h d w hg f nw nd : Nat) : Prop :=
  ((h = 35 ∧ d = 58) ∨ (h = 58 ∧ d = 35)) ∧ (M.1 0 5 = nI h ∧ M.1 0 6 = nI d ∧ rZ M) ∧ rB w hg f nw nd ∧
  (M.1 81 9 = nI w ∧ M.1 81 10 = nI hg ∧ M.1 81 11 = nI f ∧ M.1 81 20 = nI nw ∧ M.1 81 21 = nI nd ∧ M.1 5 2 = nI f) ∧
  rT (M.1 3) (M.1 2 1) (M.1 81 3) (M.1 82) ∧ (rS (M.1 83) ∧ rW (w * hg) nw (M.1 87) ∧ rD (w * hg) nd (M.1 88)) ∧
  rX w hg nw nd (fun i => M.1 (h + i)) (M.1 87) (M.1 88) ∧ rG (M.1 (h + 2)) (M.1 (h + 3)) (M.1 (h + 1) 2) (M.1 (h + 1) 3) (M.1 83) ∧
  rH (w * hg) (M.1 17 2) (M.1 18) (M.1 19) (M.1 83) ∧
  (∀ i, i < 2 → rI (w * hg) (M.1 (21 + 7 * i) 2) (M.1 86 i) (M.1 (23 + 7 * i)) (M.1 (24 + 7 * i)) (M.1 (22 + 7 * i) 2) (M.1 (22 + 7 * i) 3) (M.1 (25 + 7 * i) 2) (M.1 (26 + 7 * i)) (M.1 (27 + 7 * i)) (fun k => M.1 85 (207 * i + k))) ∧
  (∀ i, i < nw → rL w hg f (M.1 83) (M.1 87 (4 * i)).toNatClampNeg (M.1 87 (4 * i + 1)).toNatClampNeg (M.1 (7 + i))) ∧
  rBr nw nd (M.1 15) (fun i => M.1 (7 + i)) (M.1 87) (M.1 88) ∧ M.2 0 = M.2 1
def RelE (M : xMem) : Prop := ∃ h d w hg f nw nd : Nat, Rel M h d w hg f nw nd
/-- the cells that no answer will ever show -/
def scr (h i k : Nat) : Prop := i = 1 ∨ i = 4 ∨ i = 13 ∨ i = 14 ∨ (i = 16 ∧ k ≠ 0) ∨ (35 ≤ i ∧ i < 81 ∧ ¬ (h ≤ i ∧ i < h + 23) ∧ ¬ (k = 0 ∧ (i = 56 ∨ i = 57 ∨ i = 79 ∨ i = 80))) ∨ (i = 81 ∧ ¬ (k = 3 ∨ k = 9 ∨ k = 10 ∨ k = 11 ∨ k = 20 ∨ k = 21)) ∨ i = 84 ∨ i = 89
/-- two memories that show the same -/
def same (h : Nat) (M N : xMem) : Prop := (∀ i k, ¬ scr h i k → N.1 i k = M.1 i k) ∧ N.2 = M.2
theorem same_rf {h : Nat} {M : xMem} : same h M M := ⟨fun _ _ _ => rfl, rfl⟩
theorem same_tr {h : Nat} {M N P : xMem} (h1 : same h M N) (h2 : same h N P) : same h M P := ⟨fun i k q => (h2.1 i k q).trans (h1.1 i k q), h2.2.trans h1.2⟩
theorem same_set {h : Nat} {M N : xMem} {i k : Nat} {v : Int32} (h1 : same h M N) (hs : scr h i k) : same h M (xset N i k v) := by
  refine ⟨fun j n q => ?_, h1.2⟩
  rw [m_at, if_neg (fun e => q (by rw [e.1, e.2]; exact hs))]
  exact h1.1 j n q
theorem same_row {h : Nat} {M N : xMem} {i : Nat} {g : Nat → Int32} (h1 : same h M N) (hs : ∀ k, scr h i k) : same h M (xrow N i g) := by
  refine ⟨fun j n q => ?_, h1.2⟩
  by_cases e : j = i
  · exact absurd (e ▸ hs n) q
  · rw [m_rrow _ _ e]
    exact h1.1 j n q
theorem same_r {h : Nat} {M N : xMem} {i : Nat} (h1 : same h M N) (hv : ∀ k, ¬ scr h i k) : N.1 i = M.1 i := funext fun k => h1.1 i k (hv k)
theorem rX_cong {w hg nw nd : Nat} {c c' : Nat → Nat → Int32} {wk dd : Nat → Int32} (hw : nw ≤ 6) (hd : nd ≤ 8) (hc : ∀ i, i < 23 → c' i = c i) (h : rX w hg nw nd c wk dd) : rX w hg nw nd c' wk dd := by
  obtain ⟨h1, h2, h3, h4, h5, h6, h7⟩ := h
  refine ⟨?_, fun i k hi hk => ?_, fun i k hi hk => ?_, fun i hi => ?_, fun i hi => ?_, fun s hs => ?_, fun s hs => ?_⟩
  · rw [hc 0 (by omega)]
    exact h1
  · rw [hc (5 + i) (by omega)]
    exact h2 i k hi hk
  · rw [hc (12 + i) (by omega)]
    exact h3 i k hi hk
  · rw [hc 20 (by omega)]
    exact h4 i hi
  · rw [hc (12 + i) (by omega)]
    exact h5 i hi
  · rw [hc 21 (by omega)]
    exact h6 s hs
  · rw [hc 22 (by omega)]
    exact h7 s hs
theorem heardS_cong {lf lf' : Nat → Nat → Int32} {wk : Nat → Int32} {y : Nat} {o : Bool} {s : Nat} : ∀ n, (∀ i, i < n → lf' i y = lf i y) → heardS lf' wk y o s n = heardS lf wk y o s n
  | 0, _ => rfl
  | n + 1, h => by
    unfold heardS
    rw [heardS_cong n (fun i hi => h i (Nat.lt_succ_of_lt hi)), h n (Nat.lt_succ_self n)]
theorem Rel_same {M N : xMem} {h d w hg f nw nd : Nat} (hR : Rel M h d w hg f nw nd) (hs : same h M N) : Rel N h d w hg f nw nd := by
  obtain ⟨r1, r2, r3, r4, r5, r6, r7, r8, r9, r10, r11, r12, r13⟩ := hR
  have hh : (h = 35 ∨ h = 58) := by rcases r1 with q | q <;> omega
  have rw_ : ∀ i, (∀ k, ¬ scr h i k) → N.1 i = M.1 i := fun i hv => same_r hs hv
  have e0 : ∀ k, N.1 0 k = M.1 0 k := fun k => hs.1 0 k (by unfold scr; omega)
  have e2 : N.1 2 = M.1 2 := rw_ 2 (fun k => by unfold scr; omega)
  have e3 : N.1 3 = M.1 3 := rw_ 3 (fun k => by unfold scr; omega)
  have e5 : N.1 5 = M.1 5 := rw_ 5 (fun k => by unfold scr; omega)
  have e15 : N.1 15 = M.1 15 := rw_ 15 (fun k => by unfold scr; omega)
  have e17 : N.1 17 = M.1 17 := rw_ 17 (fun k => by unfold scr; omega)
  have e18 : N.1 18 = M.1 18 := rw_ 18 (fun k => by unfold scr; omega)
  have e19 : N.1 19 = M.1 19 := rw_ 19 (fun k => by unfold scr; omega)
  have eI : ∀ i, 21 ≤ i → i < 35 → N.1 i = M.1 i := fun i h1 h2 => rw_ i (fun k => by unfold scr; omega)
  have eh : ∀ i, i < 23 → N.1 (h + i) = M.1 (h + i) := fun i hi => rw_ (h + i) (fun k => by unfold scr; omega)
  have e81 : ∀ k, (k = 3 ∨ k = 9 ∨ k = 10 ∨ k = 11 ∨ k = 20 ∨ k = 21) → N.1 81 k = M.1 81 k := fun k hk => hs.1 81 k (by unfold scr; omega)
  have e82 : N.1 82 = M.1 82 := rw_ 82 (fun k => by unfold scr; omega)
  have e83 : N.1 83 = M.1 83 := rw_ 83 (fun k => by unfold scr; omega)
  have e85 : N.1 85 = M.1 85 := rw_ 85 (fun k => by unfold scr; omega)
  have e86 : N.1 86 = M.1 86 := rw_ 86 (fun k => by unfold scr; omega)
  have e87 : N.1 87 = M.1 87 := rw_ 87 (fun k => by unfold scr; omega)
  have e88 : N.1 88 = M.1 88 := rw_ 88 (fun k => by unfold scr; omega)
  have el : ∀ i, i < 6 → N.1 (7 + i) = M.1 (7 + i) := fun i hi => rw_ (7 + i) (fun k => by unfold scr; omega)
  have hnw : nw ≤ 6 := r3.2.2.2.1
  have hnd : nd ≤ 8 := r3.2.2.2.2
  refine ⟨r1, ?_, r3, ?_, ?_, ?_, ?_, ?_, ?_, fun i hi => ?_, fun i hi => ?_, ?_, ?_⟩
  · rw [e0, e0]
    have z : ∀ i, (i = 16 ∨ i = 56 ∨ i = 57 ∨ i = 79 ∨ i = 80) → N.1 i 0 = M.1 i 0 := fun i hi => hs.1 i 0 (by unfold scr; omega)
    refine ⟨r2.1, r2.2.1, ?_⟩
    unfold rZ
    rw [z 16 (by omega), z 56 (by omega), z 57 (by omega), z 79 (by omega), z 80 (by omega)]
    exact r2.2.2
  · rw [e81 9 (by omega), e81 10 (by omega), e81 11 (by omega), e81 20 (by omega), e81 21 (by omega), e5]
    exact r4
  · rw [e3, e2, e82, e81 3 (by omega)]
    exact r5
  · rw [e83, e87, e88]
    exact r6
  · rw [e87, e88]
    exact rX_cong hnw hnd eh r7
  · rw [eh 2 (by omega), eh 3 (by omega), eh 1 (by omega), e83]
    exact r8
  · rw [e17, e18, e19, e83]
    exact r9
  · rw [eI (21 + 7 * i) (by omega) (by omega), eI (22 + 7 * i) (by omega) (by omega), eI (23 + 7 * i) (by omega) (by omega), eI (24 + 7 * i) (by omega) (by omega), eI (25 + 7 * i) (by omega) (by omega), eI (26 + 7 * i) (by omega) (by omega), eI (27 + 7 * i) (by omega) (by omega), e86, e85]
    exact r10 i hi
  · rw [e83, e87, el i (by omega)]
    exact r11 i hi
  · intro s hs'
    rw [e15, e87, e88]
    obtain ⟨k, k1, k2, k3⟩ := r12 s hs'
    refine ⟨k, k1, k2, fun j hj => ?_⟩
    have e := heardS_cong (lf := fun i => M.1 (7 + i)) (lf' := fun i => N.1 (7 + i)) (wk := M.1 87) (y := (M.1 88 (5 * j)).toNatClampNeg) (o := true) (s := s) nw (fun i hi => by show N.1 (7 + i) _ = M.1 (7 + i) _; rw [el i (by omega)])
    show k.testBit j = true ↔ (M.1 88 (5 * j + 3)).toInt < (heardS (fun i => N.1 (7 + i)) (M.1 87) (M.1 88 (5 * j)).toNatClampNeg true s nw).toInt
    rw [e]
    exact k3 j hj
  · rw [hs.2]
    exact r13
