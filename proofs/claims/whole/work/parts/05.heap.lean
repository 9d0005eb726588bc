/-! rows that read and write the memory, returns, calls -/
section XH
variable {G : xG} {M : xMem} {lv : List (Option Value)} {rest : List Value} {pc : Nat} {cc : ByteArray} {own : String} {ws : List Cond} {rm : Room}
theorem xWd_D {A : Nat → Prop} {a : Nat → Nat} {cs : xCs} {M : xMem} (hI : xInj a) (hA : ∀ i, i < 90 → A (a i)) : va_D A (xWd a cs M) := by
  refine ⟨fun i j p q hp hq hpq => ?_, fun k q hk => ?_⟩
  · obtain ⟨h1, rfl⟩ := xWd_of hp
    obtain ⟨h2, rfl⟩ := xWd_of hq
    exact hI i j h1 h2 hpq
  · obtain ⟨h1, rfl⟩ := xWd_of hk
    exact hA k h1
theorem x_getfield {C : String} {T : u_T} {N ci index : Nat} {i : Nat} {fs : List Value} {v : Value} (hG : xOk G cc own ws rm) (hd : decode cc pc = .ok (.getfield index, 3)) (hi : i < 90) (he : ∀ cs, xcell (xa G) cs M i = .inr (ci, fs)) (hc : vwCl[ci]? = some (C, T, N)) (hin : ∀ w ∈ u_ws C T N, w ∈ ws) (k : Nat) (hk : k < N) (hlink : Cond.fieldLink own index (T k).1 (T k).2.1 (T k).2.2.1 ∈ ws) (hv : fs[k]? = some v) (kk : xW G M lv (v :: rest) (pc + 3)) : xW G M lv (.ref (xa G i) :: rest) pc := by
  obtain ⟨p, l, e, R, s, m, args, below, meth, c, nL, A, H0, Q, D, a, cs, kc, ks⟩ := G
  obtain ⟨hx, hb, hml, hown, hts, hK, hI, hAi, hAn, hR, hc1, hc2, hNw, hH0⟩ := hG
  intro H locs ls hP hS hl
  exact va_get hx hb hts hin hown hK hP i ((xWd_at hi).trans (by rw [show xcell a cs M i = _ from he cs]; rfl)) hc k hk (hts _ hlink) (fun _ h => h) hv hd (kk H locs ls hP hS hl)
theorem x_putfield {C : String} {T : u_T} {N ci index : Nat} {i : Nat} {fs : List Value} {v : Value} {M' : xMem} (hG : xOk G cc own ws rm) (hd : decode cc pc = .ok (.putfield index, 3)) (hi : i < 90) (he : ∀ cs, xcell (xa G) cs M i = .inr (ci, fs)) (hc : vwCl[ci]? = some (C, T, N)) (hin : ∀ w ∈ u_ws C T N, w ∈ ws) (ty0 : Nat → FieldType) (hty : ∀ k, k < N → parseFieldDescriptor (T k).2.2.1 = some (ty0 k)) (hnm : ∀ a, a < N → ∀ b, b < N → a ≠ b → (T a).2.1 ≠ (T b).2.1) (k : Nat) (hk : k < N) (hlink : Cond.fieldLink own index (T k).1 (T k).2.1 (T k).2.2.1 ∈ ws) (hfin : (T k).2.2.2 = false) (hn : narrow (ty0 k) v = v) (hfit : fits (ty0 k) v = true) (hl0 : k < fs.length) (he2 : ∀ cs, xcell (xa G) cs M' i = .inr (ci, fs.set k v)) (ho : ∀ cs j, j < 90 → j ≠ i → xcell (xa G) cs M' j = xcell (xa G) cs M j) (kk : xW G M' lv rest (pc + 3)) : xW G M lv (v :: .ref (xa G i) :: rest) pc := by
  obtain ⟨p, l, e, R, s, m, args, below, meth, c, nL, A, H0, Q, D, a, cs, kc, ks⟩ := G
  obtain ⟨hx, hb, hml, hown, hts, hK, hI, hAi, hAn, hR, hc1, hc2, hNw, hH0⟩ := hG
  intro H locs ls hP hS hl
  refine va_put hx hb hts hin ty0 hty hnm hown hK hP (xWd_D hI hAi) hS i ((xWd_at hi).trans (by rw [show xcell a cs M i = _ from he cs]; rfl)) hc k hk (hts _ hlink) (fun _ h => h) hfin (hty k hk) hn hfit hl0 hd (fun H1 locs1 hP1 _ hS1 => ?_)
  have e1 : (xWd a cs M).set i (a i, .inr (ci, fs.set k v)) = xWd a cs M' := xWd_set hi (he2 cs) (ho cs)
  change va_P D vwCl ((xWd a cs M).set i (a i, .inr (ci, fs.set k v))) H1 at hP1
  rw [e1] at hP1
  exact kk H1 locs1 ls hP1 hS1 hl
theorem xc_0 {a : Nat → Nat} {cs : xCs} {M : xMem} {i : Nat} (h : kd i = 0) : xcell a cs M i = .inr (0, [.ref (a (i + 1)), .ref (a (i + 2)), .int (M.1 i 2), .int (M.1 i 3)]) := by
  unfold xcell
  rw [h]
  rfl
theorem xc_1 {a : Nat → Nat} {cs : xCs} {M : xMem} {i : Nat} (h : kd i = 1) : xcell a cs M i = .inr (1, [.ref (a (i + 1)), .ref (a (i + 2)), .int (M.1 i 2)]) := by
  unfold xcell
  rw [h]
  rfl
theorem xc_2 {a : Nat → Nat} {cs : xCs} {M : xMem} {i : Nat} (h : kd i = 2) : xcell a cs M i = .inr (2, [.int (M.1 i 0), .int (M.1 i 1), .int (M.1 i 2), .int (M.1 i 3), .ref (a (i + 1)), .ref (a (i + 4)), .ref (a (i + 11)), .ref (a (i + 20)), .ref (a (i + 21)), .ref (a (i + 22))]) := by
  unfold xcell
  rw [h]
  rfl
theorem xc_3 {a : Nat → Nat} {cs : xCs} {M : xMem} {i : Nat} (h : kd i = 3) : xcell a cs M i = .inr (3, [.ref (a (i + 1)), .ref (a (i + 4)), .int (M.1 i 2)]) := by
  unfold xcell
  rw [h]
  rfl
theorem xc_4 {a : Nat → Nat} {cs : xCs} {M : xMem} {i : Nat} (h : kd i = 4) : xcell a cs M i = .inr (4, [.ref (a (i + 1)), .ref (a (i + 2)), .int (M.1 i 2), .int (M.1 i 3)]) := by
  unfold xcell
  rw [h]
  rfl
theorem xc_5 {a : Nat → Nat} {cs : xCs} {M : xMem} {i : Nat} (h : kd i = 5) : xcell a cs M i = .inr (5, [.ref (a (i + 1)), .ref (a (i + 3)), .int (M.1 i 2), .int (M.1 i 3), .int (M.1 i 4), .int (M.1 i 5)]) := by
  unfold xcell
  rw [h]
  rfl
theorem xc_6 {a : Nat → Nat} {cs : xCs} {M : xMem} {i : Nat} (h : kd i = 6) : xcell a cs M i = .inr (6, [.ref (a (i + 1)), .ref (a (i + 8)), .int (M.1 i 2)]) := by
  unfold xcell
  rw [h]
  rfl
theorem xc_7 {a : Nat → Nat} {cs : xCs} {M : xMem} {i : Nat} (h : kd i = 7) : xcell a cs M i = .inr (7, [.ref (a (i + 1)), .int (M.1 i 1)]) := by
  unfold xcell
  rw [h]
  rfl
theorem xc_8 {a : Nat → Nat} {cs : xCs} {M : xMem} {i : Nat} (h : kd i = 8) : xcell a cs M i = .inr (8, [.ref (a (i + 1)), .ref (a (i + 5)), .ref (a (i + 14)), .ref (a (i + 17)), .ref (a (i + 20)), .ref (a (M.1 i 5).toNatClampNeg), .ref (a (M.1 i 6).toNatClampNeg), .long (M.2 0)]) := by
  unfold xcell
  rw [h]
  rfl
theorem xc_9 {a : Nat → Nat} {cs : xCs} {M : xMem} {i : Nat} (h : kd i = 9) : xcell a cs M i = .inr (9, [.int (M.1 i 0), .long (M.2 1), .ref (a (i + 1)), .int (M.1 i 3), .int (M.1 i 4), .int (M.1 i 5), .int (M.1 i 6), .int (M.1 i 7), .int (M.1 i 8), .int (M.1 i 9), .int (M.1 i 10), .int (M.1 i 11), .int (M.1 i 12), .int (M.1 i 13), .ref (a (i + 2)), .ref (a (i + 3)), .ref (a (i + 4)), .ref (a (i + 5)), .ref (a (i + 6)), .ref (a (i + 7)), .int (M.1 i 20), .int (M.1 i 21), .int (M.1 i 22), .int (M.1 i 23), .ref (a (i + 8)), .int (M.1 i 25), .int (M.1 i 26)]) := by
  unfold xcell
  rw [h]
  rfl
theorem kf_0_0 {i : Nat} (h : kd i = 0) : kd (i + 1) = 10 ∧ ln (i + 1) = 96 := (by decide : ∀ i, i < 90 → kd i = 0 → kd (i + 1) = 10 ∧ ln (i + 1) = 96) i (kd_lt h (by decide)) h
theorem kf_0_1 {i : Nat} (h : kd i = 0) : kd (i + 2) = 10 ∧ ln (i + 2) = 96 := (by decide : ∀ i, i < 90 → kd i = 0 → kd (i + 2) = 10 ∧ ln (i + 2) = 96) i (kd_lt h (by decide)) h
theorem kf_1_0 {i : Nat} (h : kd i = 1) : kd (i + 1) = 10 ∧ ln (i + 1) = 6 := (by decide : ∀ i, i < 90 → kd i = 1 → kd (i + 1) = 10 ∧ ln (i + 1) = 6) i (kd_lt h (by decide)) h
theorem kf_1_1 {i : Nat} (h : kd i = 1) : kd (i + 2) = 10 ∧ ln (i + 2) = 6 := (by decide : ∀ i, i < 90 → kd i = 1 → kd (i + 2) = 10 ∧ ln (i + 2) = 6) i (kd_lt h (by decide)) h
theorem kf_2_4 {i : Nat} (h : kd i = 2) : kd (i + 1) = 0 ∧ ln (i + 1) = 0 := (by decide : ∀ i, i < 90 → kd i = 2 → kd (i + 1) = 0 ∧ ln (i + 1) = 0) i (kd_lt h (by decide)) h
theorem kf_2_5 {i : Nat} (h : kd i = 2) : kd (i + 4) = 11 ∧ ln (i + 4) = 6 := (by decide : ∀ i, i < 90 → kd i = 2 → kd (i + 4) = 11 ∧ ln (i + 4) = 6) i (kd_lt h (by decide)) h
theorem kf_2_6 {i : Nat} (h : kd i = 2) : kd (i + 11) = 11 ∧ ln (i + 11) = 8 := (by decide : ∀ i, i < 90 → kd i = 2 → kd (i + 11) = 11 ∧ ln (i + 11) = 8) i (kd_lt h (by decide)) h
theorem kf_2_7 {i : Nat} (h : kd i = 2) : kd (i + 20) = 10 ∧ ln (i + 20) = 12 := (by decide : ∀ i, i < 90 → kd i = 2 → kd (i + 20) = 10 ∧ ln (i + 20) = 12) i (kd_lt h (by decide)) h
theorem kf_2_8 {i : Nat} (h : kd i = 2) : kd (i + 21) = 10 ∧ ln (i + 21) = 64 := (by decide : ∀ i, i < 90 → kd i = 2 → kd (i + 21) = 10 ∧ ln (i + 21) = 64) i (kd_lt h (by decide)) h
theorem kf_2_9 {i : Nat} (h : kd i = 2) : kd (i + 22) = 10 ∧ ln (i + 22) = 256 := (by decide : ∀ i, i < 90 → kd i = 2 → kd (i + 22) = 10 ∧ ln (i + 22) = 256) i (kd_lt h (by decide)) h
theorem kf_3_0 {i : Nat} (h : kd i = 3) : kd (i + 1) = 0 ∧ ln (i + 1) = 0 := (by decide : ∀ i, i < 90 → kd i = 3 → kd (i + 1) = 0 ∧ ln (i + 1) = 0) i (kd_lt h (by decide)) h
theorem kf_3_1 {i : Nat} (h : kd i = 3) : kd (i + 4) = 1 ∧ ln (i + 4) = 0 := (by decide : ∀ i, i < 90 → kd i = 3 → kd (i + 4) = 1 ∧ ln (i + 4) = 0) i (kd_lt h (by decide)) h
theorem kf_4_0 {i : Nat} (h : kd i = 4) : kd (i + 1) = 10 ∧ ln (i + 1) = 64 := (by decide : ∀ i, i < 90 → kd i = 4 → kd (i + 1) = 10 ∧ ln (i + 1) = 64) i (kd_lt h (by decide)) h
theorem kf_4_1 {i : Nat} (h : kd i = 4) : kd (i + 2) = 10 ∧ ln (i + 2) = 64 := (by decide : ∀ i, i < 90 → kd i = 4 → kd (i + 2) = 10 ∧ ln (i + 2) = 64) i (kd_lt h (by decide)) h
theorem kf_5_0 {i : Nat} (h : kd i = 5) : kd (i + 1) = 7 ∧ ln (i + 1) = 0 := (by decide : ∀ i, i < 90 → kd i = 5 → kd (i + 1) = 7 ∧ ln (i + 1) = 0) i (kd_lt h (by decide)) h
theorem kf_5_1 {i : Nat} (h : kd i = 5) : kd (i + 3) = 10 ∧ ln (i + 3) = 2 := (by decide : ∀ i, i < 90 → kd i = 5 → kd (i + 3) = 10 ∧ ln (i + 3) = 2) i (kd_lt h (by decide)) h
theorem kf_6_0 {i : Nat} (h : kd i = 6) : kd (i + 1) = 11 ∧ ln (i + 1) = 6 := (by decide : ∀ i, i < 90 → kd i = 6 → kd (i + 1) = 11 ∧ ln (i + 1) = 6) i (kd_lt h (by decide)) h
theorem kf_6_1 {i : Nat} (h : kd i = 6) : kd (i + 8) = 10 ∧ ln (i + 8) = 48 := (by decide : ∀ i, i < 90 → kd i = 6 → kd (i + 8) = 10 ∧ ln (i + 8) = 48) i (kd_lt h (by decide)) h
theorem kf_7_0 {i : Nat} (h : kd i = 7) : kd (i + 1) = 10 ∧ ln (i + 1) = 400 := (by decide : ∀ i, i < 90 → kd i = 7 → kd (i + 1) = 10 ∧ ln (i + 1) = 400) i (kd_lt h (by decide)) h
theorem kf_8_0 {i : Nat} (h : kd i = 8) : kd (i + 1) = 5 ∧ ln (i + 1) = 0 := (by decide : ∀ i, i < 90 → kd i = 8 → kd (i + 1) = 5 ∧ ln (i + 1) = 0) i (kd_lt h (by decide)) h
theorem kf_8_1 {i : Nat} (h : kd i = 8) : kd (i + 5) = 6 ∧ ln (i + 5) = 0 := (by decide : ∀ i, i < 90 → kd i = 8 → kd (i + 5) = 6 ∧ ln (i + 5) = 0) i (kd_lt h (by decide)) h
theorem kf_8_2 {i : Nat} (h : kd i = 8) : kd (i + 14) = 4 ∧ ln (i + 14) = 0 := (by decide : ∀ i, i < 90 → kd i = 8 → kd (i + 14) = 4 ∧ ln (i + 14) = 0) i (kd_lt h (by decide)) h
theorem kf_8_3 {i : Nat} (h : kd i = 8) : kd (i + 17) = 1 ∧ ln (i + 17) = 0 := (by decide : ∀ i, i < 90 → kd i = 8 → kd (i + 17) = 1 ∧ ln (i + 17) = 0) i (kd_lt h (by decide)) h
theorem kf_8_4 {i : Nat} (h : kd i = 8) : kd (i + 20) = 12 ∧ ln (i + 20) = 2 := (by decide : ∀ i, i < 90 → kd i = 8 → kd (i + 20) = 12 ∧ ln (i + 20) = 2) i (kd_lt h (by decide)) h
theorem kf_9_2 {i : Nat} (h : kd i = 9) : kd (i + 1) = 10 ∧ ln (i + 1) = 400 := (by decide : ∀ i, i < 90 → kd i = 9 → kd (i + 1) = 10 ∧ ln (i + 1) = 400) i (kd_lt h (by decide)) h
theorem kf_9_14 {i : Nat} (h : kd i = 9) : kd (i + 2) = 10 ∧ ln (i + 2) = 207 := (by decide : ∀ i, i < 90 → kd i = 9 → kd (i + 2) = 10 ∧ ln (i + 2) = 207) i (kd_lt h (by decide)) h
theorem kf_9_15 {i : Nat} (h : kd i = 9) : kd (i + 3) = 10 ∧ ln (i + 3) = 207 := (by decide : ∀ i, i < 90 → kd i = 9 → kd (i + 3) = 10 ∧ ln (i + 3) = 207) i (kd_lt h (by decide)) h
theorem kf_9_16 {i : Nat} (h : kd i = 9) : kd (i + 4) = 10 ∧ ln (i + 4) = 414 := (by decide : ∀ i, i < 90 → kd i = 9 → kd (i + 4) = 10 ∧ ln (i + 4) = 414) i (kd_lt h (by decide)) h
theorem kf_9_17 {i : Nat} (h : kd i = 9) : kd (i + 5) = 13 ∧ ln (i + 5) = 2 := (by decide : ∀ i, i < 90 → kd i = 9 → kd (i + 5) = 13 ∧ ln (i + 5) = 2) i (kd_lt h (by decide)) h
theorem kf_9_18 {i : Nat} (h : kd i = 9) : kd (i + 6) = 10 ∧ ln (i + 6) = 48 := (by decide : ∀ i, i < 90 → kd i = 9 → kd (i + 6) = 10 ∧ ln (i + 6) = 48) i (kd_lt h (by decide)) h
theorem kf_9_19 {i : Nat} (h : kd i = 9) : kd (i + 7) = 10 ∧ ln (i + 7) = 80 := (by decide : ∀ i, i < 90 → kd i = 9 → kd (i + 7) = 10 ∧ ln (i + 7) = 80) i (kd_lt h (by decide)) h
theorem kf_9_24 {i : Nat} (h : kd i = 9) : kd (i + 8) = 10 ∧ ln (i + 8) = 336 := (by decide : ∀ i, i < 90 → kd i = 9 → kd (i + 8) = 10 ∧ ln (i + 8) = 336) i (kd_lt h (by decide)) h
theorem ke_11 {i j : Nat} (h : kd i = 11) (hj : j < ln i) : kd (i + 1 + j) = 10 := (by decide : ∀ i, i < 90 → kd i = 11 → ∀ j, j < ln i → kd (i + 1 + j) = 10) i (kd_lt h (by decide)) h j hj
theorem ke_12 {i j : Nat} (h : kd i = 12) (hj : j < ln i) : kd (i + 1 + 7 * j) = 3 := (by decide : ∀ i, i < 90 → kd i = 12 → ∀ j, j < ln i → kd (i + 1 + 7 * j) = 3) i (kd_lt h (by decide)) h j hj
theorem ke_2_5 {i j : Nat} (h : kd i = 2) (hj : j < 6) : kd (i + 4 + 1 + j) = 10 ∧ ln (i + 4 + 1 + j) = 4 := (by decide : ∀ i, i < 90 → kd i = 2 → ∀ j, j < 6 → kd (i + 4 + 1 + j) = 10 ∧ ln (i + 4 + 1 + j) = 4) i (kd_lt h (by decide)) h j hj
theorem ke_2_6 {i j : Nat} (h : kd i = 2) (hj : j < 8) : kd (i + 11 + 1 + j) = 10 ∧ ln (i + 11 + 1 + j) = 6 := (by decide : ∀ i, i < 90 → kd i = 2 → ∀ j, j < 8 → kd (i + 11 + 1 + j) = 10 ∧ ln (i + 11 + 1 + j) = 6) i (kd_lt h (by decide)) h j hj
theorem ke_6_0 {i j : Nat} (h : kd i = 6) (hj : j < 6) : kd (i + 1 + 1 + j) = 10 ∧ ln (i + 1 + 1 + j) = 48 := (by decide : ∀ i, i < 90 → kd i = 6 → ∀ j, j < 6 → kd (i + 1 + 1 + j) = 10 ∧ ln (i + 1 + 1 + j) = 48) i (kd_lt h (by decide)) h j hj
theorem vp_lt {x : Int32} {n : Nat} (h : vp_in x n) : x.toNatClampNeg < n := Nat.not_le.mp fun q => h (Or.inr q)
theorem xc_10 {a : Nat → Nat} {cs : xCs} {M : xMem} {i : Nat} (h : kd i = 10) : xcell a cs M i = .inl (cs.1, ln i, .inl (M.1 i)) := by
  unfold xcell
  rw [h]
  rfl
theorem xc_11 {a : Nat → Nat} {cs : xCs} {M : xMem} {i : Nat} (h : kd i = 11) : xcell a cs M i = .inl (cs.2.1, ln i, .inr (.inr (.inr (.inr (fun j => some (a (i + 1 + j))))))) := by
  unfold xcell
  rw [h]
  rfl
theorem xc_12 {a : Nat → Nat} {cs : xCs} {M : xMem} {i : Nat} (h : kd i = 12) : xcell a cs M i = .inl (cs.2.2.1, ln i, .inr (.inr (.inr (.inr (fun j => some (a (i + 1 + 7 * j))))))) := by
  unfold xcell
  rw [h]
  rfl
theorem xc_13 {a : Nat → Nat} {cs : xCs} {M : xMem} {i : Nat} (h : kd i = 13) : xcell a cs M i = .inl (cs.2.2.2, ln i, .inl (M.1 i)) := by
  unfold xcell
  rw [h]
  rfl
theorem x_iaload {i : Nat} {x : Int32} (hG : xOk G cc own ws rm) (hd : decode cc pc = .ok (.iaload, 1)) (hk : kd i = 10) (hin : vp_in x (ln i)) (k : xW G M lv (.int (M.1 i x.toNatClampNeg) :: rest) (pc + 1)) : xW G M lv (.int x :: .ref (xa G i) :: rest) pc := by
  obtain ⟨p, l, e, R, s, m, args, below, meth, c, nL, A, H0, Q, D, a, cs, kc, ks⟩ := G
  obtain ⟨hx, hb, hml, hown, hts, hK, hI, hAi, hAn, hR, hc1, hc2, hNw, hH0⟩ := hG
  intro H locs ls hP hS hl
  exact va_iald hx hb hK hP i 0 ((xWd_at (kd_lt hk (by decide))).trans (by rw [xc_10 hk]; rfl)) rfl hin hd (k H locs ls hP hS hl)
theorem x_zaload {i : Nat} {x : Int32} (hG : xOk G cc own ws rm) (hd : decode cc pc = .ok (.baload, 1)) (hk : kd i = 13) (hin : vp_in x (ln i)) (k : xW G M lv (.int (M.1 i x.toNatClampNeg) :: rest) (pc + 1)) : xW G M lv (.int x :: .ref (xa G i) :: rest) pc := by
  obtain ⟨p, l, e, R, s, m, args, below, meth, c, nL, A, H0, Q, D, a, cs, kc, ks⟩ := G
  obtain ⟨hx, hb, hml, hown, hts, hK, hI, hAi, hAn, hR, hc1, hc2, hNw, hH0⟩ := hG
  intro H locs ls hP hS hl
  exact va_zald hx hb hK hP i 3 ((xWd_at (kd_lt hk (by decide))).trans (by rw [xc_13 hk]; rfl)) rfl hin hd (k H locs ls hP hS hl)
theorem x_iastore {i : Nat} {x v : Int32} (hG : xOk G cc own ws rm) (hd : decode cc pc = .ok (.iastore, 1)) (hk : kd i = 10) (hin : vp_in x (ln i)) (k : xW G (xset M i x.toNatClampNeg v) lv rest (pc + 1)) : xW G M lv (.int v :: .int x :: .ref (xa G i) :: rest) pc := by
  obtain ⟨p, l, e, R, s, m, args, below, meth, c, nL, A, H0, Q, D, a, cs, kc, ks⟩ := G
  obtain ⟨hx, hb, hml, hown, hts, hK, hI, hAi, hAn, hR, hc1, hc2, hNw, hH0⟩ := hG
  intro H locs ls hP hS hl
  have hi := kd_lt hk (by decide)
  refine va_iast hx hb hK hP (xWd_D hI hAi) hS i 0 ((xWd_at hi).trans (by rw [xc_10 hk]; rfl)) rfl hin hd (fun H1 locs1 hP1 _ hS1 => ?_)
  have e1 : (xWd a cs M).set i (a i, .inl (cs.1, ln i, .inl (upd (M.1 i) x.toNatClampNeg v))) = xWd a cs (xset M i x.toNatClampNeg v) := xWd_set hi (by rw [xc_10 hk, xset_row, xrow_at]) (fun j _ hj => xcell_row hj)
  change va_P D vwCl ((xWd a cs M).set i (a i, .inl (cs.1, ln i, .inl (upd (M.1 i) x.toNatClampNeg v)))) H1 at hP1
  rw [e1] at hP1
  exact k H1 locs1 ls hP1 hS1 hl
theorem x_zastore {i : Nat} {x v : Int32} (hG : xOk G cc own ws rm) (hd : decode cc pc = .ok (.bastore, 1)) (hk : kd i = 13) (hin : vp_in x (ln i)) (hv : vp_nar .boolean v = v) (k : xW G (xset M i x.toNatClampNeg v) lv rest (pc + 1)) : xW G M lv (.int v :: .int x :: .ref (xa G i) :: rest) pc := by
  obtain ⟨p, l, e, R, s, m, args, below, meth, c, nL, A, H0, Q, D, a, cs, kc, ks⟩ := G
  obtain ⟨hx, hb, hml, hown, hts, hK, hI, hAi, hAn, hR, hc1, hc2, hNw, hH0⟩ := hG
  intro H locs ls hP hS hl
  have hi := kd_lt hk (by decide)
  refine va_zast hx hb hK hP (xWd_D hI hAi) hS i 3 ((xWd_at hi).trans (by rw [xc_13 hk]; rfl)) rfl hin hd (fun H1 locs1 hP1 _ hS1 => ?_)
  rw [hv] at hP1
  have e1 : (xWd a cs M).set i (a i, .inl (cs.2.2.2, ln i, .inl (upd (M.1 i) x.toNatClampNeg v))) = xWd a cs (xset M i x.toNatClampNeg v) := xWd_set hi (by rw [xc_13 hk, xset_row, xrow_at]) (fun j _ hj => xcell_row hj)
  change va_P D vwCl ((xWd a cs M).set i (a i, .inl (cs.2.2.2, ln i, .inl (upd (M.1 i) x.toNatClampNeg v)))) H1 at hP1
  rw [e1] at hP1
  exact k H1 locs1 ls hP1 hS1 hl
theorem x_aaload11 {i : Nat} {x : Int32} (hG : xOk G cc own ws rm) (hd : decode cc pc = .ok (.aaload, 1)) (hk : kd i = 11) (hin : vp_in x (ln i)) (k : xW G M lv (.ref (xa G (i + 1 + x.toNatClampNeg)) :: rest) (pc + 1)) : xW G M lv (.int x :: .ref (xa G i) :: rest) pc := by
  obtain ⟨p, l, e, R, s, m, args, below, meth, c, nL, A, H0, Q, D, a, cs, kc, ks⟩ := G
  obtain ⟨hx, hb, hml, hown, hts, hK, hI, hAi, hAn, hR, hc1, hc2, hNw, hH0⟩ := hG
  intro H locs ls hP hS hl
  have hlt : x.toNatClampNeg < ln i := Nat.not_le.mp fun q => hin (Or.inr q)
  have ha := hP i (a i, .inl (cs.2.1, ln i, .inr (.inr (.inr (.inr (fun j => some (a (i + 1 + j)))))))) ((xWd_at (kd_lt hk (by decide))).trans (by rw [xc_11 hk]))
  refine W.aald (v := .ref (a (i + 1 + x.toNatClampNeg))) (ty := .array .int) hx hb ha ((hK.2 1 (cs.2.1, .array .int) rfl).1 (ln i) (fun j => va_rf (some (a (i + 1 + j))))) rfl (fun q => by cases q) (by show ¬ (x < 0 ∨ (arrV _ _ _).slots.size ≤ _); rw [arrV_size]; exact hin) (by show (arrV _ _ _).slots[_]? = _; rw [arrV_read _ _ hlt]; rfl) rfl rfl hd ?_
  exact k H locs ls hP hS hl
theorem x_aaload12 {i : Nat} {x : Int32} (hG : xOk G cc own ws rm) (hd : decode cc pc = .ok (.aaload, 1)) (hk : kd i = 12) (hin : vp_in x (ln i)) (k : xW G M lv (.ref (xa G (i + 1 + 7 * x.toNatClampNeg)) :: rest) (pc + 1)) : xW G M lv (.int x :: .ref (xa G i) :: rest) pc := by
  obtain ⟨p, l, e, R, s, m, args, below, meth, c, nL, A, H0, Q, D, a, cs, kc, ks⟩ := G
  obtain ⟨hx, hb, hml, hown, hts, hK, hI, hAi, hAn, hR, hc1, hc2, hNw, hH0⟩ := hG
  intro H locs ls hP hS hl
  have hlt : x.toNatClampNeg < ln i := Nat.not_le.mp fun q => hin (Or.inr q)
  have ha := hP i (a i, .inl (cs.2.2.1, ln i, .inr (.inr (.inr (.inr (fun j => some (a (i + 1 + 7 * j)))))))) ((xWd_at (kd_lt hk (by decide))).trans (by rw [xc_12 hk]))
  refine W.aald (v := .ref (a (i + 1 + 7 * x.toNatClampNeg))) (ty := .object "QuietYards$Image") hx hb ha ((hK.2 2 (cs.2.2.1, .object "QuietYards$Image") rfl).1 (ln i) (fun j => va_rf (some (a (i + 1 + 7 * j))))) rfl (fun q => by cases q) (by show ¬ (x < 0 ∨ (arrV _ _ _).slots.size ≤ _); rw [arrV_size]; exact hin) (by show (arrV _ _ _).slots[_]? = _; rw [arrV_read _ _ hlt]; rfl) rfl rfl hd ?_
  exact k H locs ls hP hS hl
theorem x_alen {i : Nat} (hG : xOk G cc own ws rm) (hd : decode cc pc = .ok (.arraylength, 1)) (hk : kd i = 10) (k : xW G M lv (.int (nI (ln i)) :: rest) (pc + 1)) : xW G M lv (.ref (xa G i) :: rest) pc := by
  obtain ⟨p, l, e, R, s, m, args, below, meth, c, nL, A, H0, Q, D, a, cs, kc, ks⟩ := G
  obtain ⟨hx, hb, hml, hown, hts, hK, hI, hAi, hAn, hR, hc1, hc2, hNw, hH0⟩ := hG
  intro H locs ls hP hS hl
  exact va_alen hx hb hK hP i 0 (x := (ln i, .inl (M.1 i))) ((xWd_at (kd_lt hk (by decide))).trans (by rw [xc_10 hk]; rfl)) (ty := .int) rfl rfl hd (k H locs ls hP hS hl)
theorem x_mmin {x y : Int32} {index : Nat} (hG : xOk G cc own ws rm) (hd : decode cc pc = .ok (.invokestatic index, 3)) (h1 : Cond.methodLink own index Lib.Math.min.name ∈ ws) (h2 : Cond.static Lib.Math.min.name ∈ ws) (h3 : Cond.initialized "java/lang/Math" ∈ ws) (h4 : Cond.code Lib.Math.min.name Lib.Math.min.code 2 (some .int) ∈ ws) (hf : 1 ≤ rm.frames) (hcat : (rest.map fun v => v.category).sum + 13 ≤ rm.locals) (k : xW G M lv (.int (if y < x then y else x) :: rest) (pc + 3)) : xW G M lv (.int y :: .int x :: rest) pc := by
  obtain ⟨p, l, e, R, s, m, args, below, meth, c, nL, A, H0, Q, D, a, cs, kc, ks⟩ := G
  obtain ⟨hx, hb, hml, hown, hts, hK, hI, hAi, hAn, hR, hc1, hc2, hNw, hH0⟩ := hG
  subst hR
  intro H locs ls hP hS hl
  exact va_mmin hx hb (hml.trans hl.1.symm) hown (hts _ h1) (hts _ h2) (hts _ h3) (hts _ h4) hf hcat hc1 hc2 hd (k H locs ls hP hS hl)
theorem x_mmax {x y : Int32} {index : Nat} (hG : xOk G cc own ws rm) (hd : decode cc pc = .ok (.invokestatic index, 3)) (h1 : Cond.methodLink own index Lib.Math.max.name ∈ ws) (h2 : Cond.static Lib.Math.max.name ∈ ws) (h3 : Cond.initialized "java/lang/Math" ∈ ws) (h4 : Cond.code Lib.Math.max.name Lib.Math.max.code 2 (some .int) ∈ ws) (hf : 1 ≤ rm.frames) (hcat : (rest.map fun v => v.category).sum + 13 ≤ rm.locals) (k : xW G M lv (.int (if x < y then y else x) :: rest) (pc + 3)) : xW G M lv (.int y :: .int x :: rest) pc := by
  obtain ⟨p, l, e, R, s, m, args, below, meth, c, nL, A, H0, Q, D, a, cs, kc, ks⟩ := G
  obtain ⟨hx, hb, hml, hown, hts, hK, hI, hAi, hAn, hR, hc1, hc2, hNw, hH0⟩ := hG
  subst hR
  intro H locs ls hP hS hl
  exact va_mmax hx hb (hml.trans hl.1.symm) hown (hts _ h1) (hts _ h2) (hts _ h3) (hts _ h4) hf hcat hc1 hc2 hd (k H locs ls hP hS hl)
theorem x_iret {post : Int32 → xMem → Prop} {ty : FieldType} {v : Int32} (hG : xOk G cc own ws rm) (hQ : xRetI G post ty) (hd : decode cc pc = .ok (.ireturn, 1)) (hn : narrow ty (.int v) = .int v) (h : post v M) : xW G M lv [.int v] pc := by
  obtain ⟨p, l, e, R, s, m, args, below, meth, c, nL, A, H0, Q, D, a, cs, kc, ks⟩ := G
  obtain ⟨hx, hb, hml, hown, hts, hK, hI, hAi, hAn, hR, hc1, hc2, hNw, hH0⟩ := hG
  obtain ⟨hr, hlocks, rfl, rfl⟩ := hQ
  intro H locs ls hP hS hl
  exact W.zret hx hb hr hn (fun t ht hW => ⟨⟨v, M, rfl, h, by rw [ht]; exact hP, va_K.moved hW.alike hK⟩, hS.F ht⟩) hS.2.2 hd hlocks
theorem x_lret {post : Int64 → xMem → Prop} {v : Int64} (hG : xOk G cc own ws rm) (hQ : xRetL G post) (hd : decode cc pc = .ok (.lreturn, 1)) (h : post v M) : xW G M lv [.long v] pc := by
  obtain ⟨p, l, e, R, s, m, args, below, meth, c, nL, A, H0, Q, D, a, cs, kc, ks⟩ := G
  obtain ⟨hx, hb, hml, hown, hts, hK, hI, hAi, hAn, hR, hc1, hc2, hNw, hH0⟩ := hG
  obtain ⟨hr, hlocks, rfl, rfl⟩ := hQ
  intro H locs ls hP hS hl
  exact W.lret hx hb hr (fun t ht hW => ⟨⟨v, M, rfl, h, by rw [ht]; exact hP, va_K.moved hW.alike hK⟩, hS.F ht⟩) hS.2.2 hd hlocks
theorem x_vret {post : xMem → Prop} (hG : xOk G cc own ws rm) (hQ : xRetV G post) (hd : decode cc pc = .ok (.return_, 1)) (h : post M) : xW G M lv [] pc := by
  obtain ⟨p, l, e, R, s, m, args, below, meth, c, nL, A, H0, Q, D, a, cs, kc, ks⟩ := G
  obtain ⟨hx, hb, hml, hown, hts, hK, hI, hAi, hAn, hR, hc1, hc2, hNw, hH0⟩ := hG
  obtain ⟨hr, hlocks, rfl, rfl⟩ := hQ
  intro H locs ls hP hS hl
  exact W.vret hx hb hr (fun t ht hW => ⟨⟨M, rfl, h, by rw [ht]; exact hP, va_K.moved hW.alike hK⟩, hS.F ht⟩) hS.2.2 hd hlocks
theorem x_aret {post : Nat → xMem → Prop} {i : Nat} (hG : xOk G cc own ws rm) (hQ : xRetR G post) (hd : decode cc pc = .ok (.areturn, 1)) (h : post i M) : xW G M lv [.ref (xa G i)] pc := by
  obtain ⟨p, l, e, R, s, m, args, below, meth, c, nL, A, H0, Q, D, a, cs, kc, ks⟩ := G
  obtain ⟨hx, hb, hml, hown, hts, hK, hI, hAi, hAn, hR, hc1, hc2, hNw, hH0⟩ := hG
  obtain ⟨hr, hlocks, rfl, rfl⟩ := hQ
  intro H locs ls hP hS hl
  exact W.aret hx hb hr (Or.inr ⟨_, rfl⟩) (Or.inr ⟨_, rfl⟩) (fun t ht hW => ⟨⟨(i, M), a i, rfl, h, rfl, by rw [ht]; exact hP, va_K.moved hW.alike hK⟩, hS.F ht⟩) hS.2.2 hd hlocks
theorem x_acopy {N src dst index : Nat} {n : Int32} (hG : xOk G cc own ws rm) (hd : decode cc pc = .ok (.invokestatic index, 3)) (h1 : Cond.methodLink own index arraycopyName ∈ ws) (h2 : Cond.native arraycopyName ∈ ws) (h3 : Cond.static arraycopyName ∈ ws) (h4 : Cond.initialized "java/lang/System" ∈ ws) (hk1 : kd src = 10) (hk2 : kd dst = 10) (hn1 : n.toNatClampNeg = N) (hn2 : ¬ n < 0) (hl1 : N ≤ ln src) (hl2 : N ≤ ln dst) (hf : 1 ≤ rm.frames) (hw : (rest.map fun v => v.category).sum + (nativeFrameWords "java/lang/System" "arraycopy" 5 + 11) ≤ rm.locals) (k : xW G (xrow M dst (va_cpy (M.1 src) (M.1 dst) 0 0 N)) lv rest (pc + 3)) : xW G M lv (.int n :: .int 0 :: .ref (xa G dst) :: .int 0 :: .ref (xa G src) :: rest) pc := by
  obtain ⟨p, l, e, R, s, m, args, below, meth, c, nL, A, H0, Q, D, a, cs, kc, ks⟩ := G
  obtain ⟨hx, hb, hml, hown, hts, hK, hI, hAi, hAn, hR, hc1, hc2, hNw, hH0⟩ := hG
  subst hR
  subst hn1
  intro H locs ls hP hS hl
  have hi1 := kd_lt hk1 (by decide)
  have hi2 := kd_lt hk2 (by decide)
  have z0 : (0 : Int32).toNatClampNeg = 0 := by decide
  refine va_copyi hx hb (hml.trans hl.1.symm) hown (hts _ h1) (hts _ h2) (hts _ h3) (hts _ h4) hK hP (xWd_D hI hAi) hS src dst 0 0 (ty := .int) ((xWd_at hi1).trans (by rw [xc_10 hk1]; rfl)) ((xWd_at hi2).trans (by rw [xc_10 hk2]; rfl)) rfl rfl rfl (by decide) (by decide) hn2 (by rw [z0, Nat.zero_add]; exact hl1) (by rw [z0, Nat.zero_add]; exact hl2) (fun _ _ => rfl) hf hw hd (fun H1 locs1 hP1 _ hS1 => ?_)
  rw [z0] at hP1
  have e1 : (xWd a cs M).set dst (a dst, .inl (cs.1, ln dst, .inl (va_cpy (M.1 src) (M.1 dst) 0 0 n.toNatClampNeg))) = xWd a cs (xrow M dst (va_cpy (M.1 src) (M.1 dst) 0 0 n.toNatClampNeg)) := xWd_set hi2 (by rw [xc_10 hk2, xrow_at]) (fun j _ hj => xcell_row hj)
  change va_P D vwCl ((xWd a cs M).set dst (a dst, .inl (cs.1, ln dst, .inl (va_cpy (M.1 src) (M.1 dst) 0 0 n.toNatClampNeg)))) H1 at hP1
  rw [e1] at hP1
  exact k H1 locs1 ls hP1 hS1 hl
theorem x_iincE {x k : Int32} {n : Int} (h : Int32.ofInt n = k) : x + Int32.ofInt n = x + k := by rw [h]
/-- the JDK's own reads of a text constant -/
theorem x_sval {i index : Nat} (hG : xOk G cc own ws rm) (hd : decode cc pc = .ok (.getfield index, 3)) (hi : i < 10) (hlink : Cond.fieldLink own index "java/lang/String" "value" "[B" ∈ ws) (k : xW G M lv (.ref (xa G (200 + i)) :: rest) (pc + 3)) : xW G M lv (.ref (xa G (100 + i)) :: rest) pc := by
  obtain ⟨p, l, e, R, s, m, args, below, meth, c, nL, A, H0, Q, D, a, cs, kc, ks⟩ := G
  obtain ⟨hx, hb, hml, hown, hts, hK, hI, hAi, hAn, hR, hc1, hc2, hNw, hH0⟩ := hG
  obtain ⟨h1, h2, h3, h4, h5, h6⟩ := hNw
  subst hH0
  intro H locs ls hP hS hl
  exact vk_getf hx hb (h5.1 i hi).2.2.1 hS hown (hts _ hlink) (fun _ h => h) hd (k H locs ls hP hS hl)
theorem x_scod {i index : Nat} (hG : xOk G cc own ws rm) (hd : decode cc pc = .ok (.getfield index, 3)) (hi : i < 10) (hlink : Cond.fieldLink own index "java/lang/String" "coder" "B" ∈ ws) (k : xW G M lv (.int 0 :: rest) (pc + 3)) : xW G M lv (.ref (xa G (100 + i)) :: rest) pc := by
  obtain ⟨p, l, e, R, s, m, args, below, meth, c, nL, A, H0, Q, D, a, cs, kc, ks⟩ := G
  obtain ⟨hx, hb, hml, hown, hts, hK, hI, hAi, hAn, hR, hc1, hc2, hNw, hH0⟩ := hG
  obtain ⟨h1, h2, h3, h4, h5, h6⟩ := hNw
  subst hH0
  intro H locs ls hP hS hl
  exact vk_getf hx hb (h5.1 i hi).2.1 hS hown (hts _ hlink) (fun _ h => h) hd (k H locs ls hP hS hl)
theorem x_scomp {index : Nat} (hG : xOk G cc own ws rm) (hd : decode cc pc = .ok (.getstatic index, 3)) (hlink : Cond.fieldLink own index "java/lang/String" "COMPACT_STRINGS" "Z" ∈ ws) (k : xW G M lv (.int 1 :: rest) (pc + 3)) : xW G M lv rest pc := by
  obtain ⟨p, l, e, R, s, m, args, below, meth, c, nL, A, H0, Q, D, a, cs, kc, ks⟩ := G
  obtain ⟨hx, hb, hml, hown, hts, hK, hI, hAi, hAn, hR, hc1, hc2, hNw, hH0⟩ := hG
  obtain ⟨h1, h2, h3, h4, h5, h6⟩ := hNw
  subst hH0
  intro H locs ls hP hS hl
  exact va_gets hx hb h3 hS hown (hts _ hlink) (fun _ h => h) hd (k H locs ls hP hS hl)
theorem x_sform {index : Nat} (hG : xOk G cc own ws rm) (hd : decode cc pc = .ok (.getstatic index, 3)) (hlink : Cond.fieldLink own index "jdk/internal/util/Preconditions" "SIOOBE_FORMATTER" "Ljava/util/function/BiFunction;" ∈ ws) (k : ∀ v : Value, v.category = 1 → (v = .null ∨ ∃ t, v = .ref t) → xW G M lv (v :: rest) (pc + 3)) : xW G M lv rest pc := by
  obtain ⟨p, l, e, R, s, m, args, below, meth, c, nL, A, H0, Q, D, a, cs, kc, ks⟩ := G
  obtain ⟨hx, hb, hml, hown, hts, hK, hI, hAi, hAn, hR, hc1, hc2, hNw, hH0⟩ := hG
  obtain ⟨h1, h2, h3, h4, h5, h6⟩ := hNw
  subst hH0
  intro H locs ls hP hS hl
  rcases h4 with h4 | ⟨t, h4⟩
  · exact va_gets hx hb h4 hS hown (hts _ hlink) (fun _ h => h) hd (k _ rfl (Or.inl rfl) H locs ls hP hS hl)
  · exact va_gets hx hb h4 hS hown (hts _ hlink) (fun _ h => h) hd (k _ rfl (Or.inr ⟨t, rfl⟩) H locs ls hP hS hl)
theorem x_slen {i : Nat} (hG : xOk G cc own ws rm) (hd : decode cc pc = .ok (.arraylength, 1)) (hi : i < 10) (k : xW G M lv (.int (nI (xsLn.getD i 0)) :: rest) (pc + 1)) : xW G M lv (.ref (xa G (200 + i)) :: rest) pc := by
  obtain ⟨p, l, e, R, s, m, args, below, meth, c, nL, A, H0, Q, D, a, cs, kc, ks⟩ := G
  obtain ⟨hx, hb, hml, hown, hts, hK, hI, hAi, hAn, hR, hc1, hc2, hNw, hH0⟩ := hG
  obtain ⟨h1, h2, h3, h4, h5, h6⟩ := hNw
  subst hH0
  intro H locs ls hP hS hl
  exact va_tlen hx hb (h5.1 i hi).2.2.2 hS rfl hd (k H locs ls hP hS hl)
theorem x_sbld {i : Nat} {x : Int32} (hG : xOk G cc own ws rm) (hd : decode cc pc = .ok (.baload, 1)) (hi : i < 10) (hin : vp_in x (xsLn.getD i 0)) (k : xW G M lv (.int ((xsBy.getD i []).getD x.toNatClampNeg 0) :: rest) (pc + 1)) : xW G M lv (.int x :: .ref (xa G (200 + i)) :: rest) pc := by
  obtain ⟨p, l, e, R, s, m, args, below, meth, c, nL, A, H0, Q, D, a, cs, kc, ks⟩ := G
  obtain ⟨hx, hb, hml, hown, hts, hK, hI, hAi, hAn, hR, hc1, hc2, hNw, hH0⟩ := hG
  obtain ⟨h1, h2, h3, h4, h5, h6⟩ := hNw
  subst hH0
  intro H locs ls hP hS hl
  exact va_tb hx hb (h5.1 i hi).2.2.2 hS hin rfl hd (k H locs ls hP hS hl)
theorem x_ldcs {i index : Nat} (hG : xOk G cc RX5 ws rm) (hd : decode cc pc = .ok (.ldc index, 2)) (hi : i < 10) (hix : xsIx.getD i 0 = index) (k : xW G M lv (.ref (xa G (100 + i)) :: rest) (pc + 2)) : xW G M lv rest pc := by
  obtain ⟨p, l, e, R, s, m, args, below, meth, c, nL, A, H0, Q, D, a, cs, kc, ks⟩ := G
  obtain ⟨hx, hb, hml, hown, hts, hK, hI, hAi, hAn, hR, hc1, hc2, hNw, hH0⟩ := hG
  obtain ⟨h1, h2, h3, h4, h5, h6⟩ := hNw
  subst hix
  intro H locs ls hP hS hl
  exact va_ldcS hx hb hown (h6 i hi) hd (k H locs ls hP hS hl)
end XH
