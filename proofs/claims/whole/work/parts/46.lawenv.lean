/-! the law, from its entry: all that is wanted of numbers is one predicate of the memory with which it begins -/
theorem lw_know {s : State} {args : Array Value} (hts0 : ∀ w ∈ lw_tbl, w.before args s = true) : ∃ (D : va_G) (cs : xCs), va_K D vwCl (xtys cs) s := by
  obtain ⟨c0, i0, hKn0⟩ := u_known (C := RX0) (T := TX0) (N := 4) (n := 4) hts0 inX0 (hts0 (.instantiable RX0 4) (by decide +kernel))
  obtain ⟨c1, i1, hKn1⟩ := u_known (C := RX1) (T := TX1) (N := 3) (n := 3) hts0 inX1 (hts0 (.instantiable RX1 3) (by decide +kernel))
  obtain ⟨c2, i2, hKn2⟩ := u_known (C := RX2) (T := TX2) (N := 10) (n := 10) hts0 inX2 (hts0 (.instantiable RX2 10) (by decide +kernel))
  obtain ⟨c3, i3, hKn3⟩ := u_known (C := RX3) (T := TX3) (N := 3) (n := 3) hts0 inX3 (hts0 (.instantiable RX3 3) (by decide +kernel))
  obtain ⟨c4, i4, hKn4⟩ := u_known (C := RX4) (T := TX4) (N := 4) (n := 4) hts0 inX4 (hts0 (.instantiable RX4 4) (by decide +kernel))
  obtain ⟨c5, i5, hKn5⟩ := u_known (C := RX5) (T := TX5) (N := 6) (n := 6) hts0 inX5 (hts0 (.instantiable RX5 6) (by decide +kernel))
  obtain ⟨c6, i6, hKn6⟩ := u_known (C := RX6) (T := TX6) (N := 3) (n := 3) hts0 inX6 (hts0 (.instantiable RX6 3) (by decide +kernel))
  obtain ⟨c7, i7, hKn7⟩ := u_known (C := RX7) (T := TX7) (N := 2) (n := 2) hts0 inX7 (hts0 (.instantiable RX7 2) (by decide +kernel))
  obtain ⟨c8, i8, hKn8⟩ := u_known (C := RX8) (T := TX8) (N := 8) (n := 8) hts0 inX8 (hts0 (.instantiable RX8 8) (by decide +kernel))
  obtain ⟨c9, i9, hKn9⟩ := u_known (C := RX9) (T := TX9) (N := 27) (n := 27) hts0 inX9 (hts0 (.instantiable RX9 27) (by decide +kernel))
  obtain ⟨a0, k0, m0, g1, g2, g3⟩ := Cond.arrayClass_spec (hts0 (.arrayClass .int) (by decide +kernel))
  obtain ⟨a1, k1, m1, g4, g5, g6⟩ := Cond.arrayClass_spec (hts0 (.arrayClass .boolean) (by decide +kernel))
  obtain ⟨m2, a2, k2, g7, g8, g9, g10, g11⟩ := arrayOver_specB (hts0 (.arrayOver (.array .int)) (by decide +kernel))
  obtain ⟨m3, a3, k3, g12, g13, g14, g15, g16⟩ := Cond.arrayOver_spec (hts0 (.arrayOver (.object "QuietYards$Image")) (by decide +kernel))
  refine ⟨(fun k => if k = 0 then c0 else if k = 1 then c1 else if k = 2 then c2 else if k = 3 then c3 else if k = 4 then c4 else if k = 5 then c5 else if k = 6 then c6 else if k = 7 then c7 else if k = 8 then c8 else c9, fun k => if k = 0 then i0 else if k = 1 then i1 else if k = 2 then i2 else if k = 3 then i3 else if k = 4 then i4 else if k = 5 then i5 else if k = 6 then i6 else if k = 7 then i7 else if k = 8 then i8 else i9), (a0, a2, a3, a1), ?_, ?_⟩
  · intro k q hq
    match k, hq with
    | 0, hq => cases hq; exact hKn0
    | 1, hq => cases hq; exact hKn1
    | 2, hq => cases hq; exact hKn2
    | 3, hq => cases hq; exact hKn3
    | 4, hq => cases hq; exact hKn4
    | 5, hq => cases hq; exact hKn5
    | 6, hq => cases hq; exact hKn6
    | 7, hq => cases hq; exact hKn7
    | 8, hq => cases hq; exact hKn8
    | 9, hq => cases hq; exact hKn9
    | k + 10, hq => simp [vwCl] at hq
  · intro k q hq
    match k, hq with
    | 0, hq => cases hq; exact ⟨fun n z => ⟨(fun k h => by cases h), k0, g2, m0, g3⟩, g1⟩
    | 1, hq => cases hq; exact ⟨fun n z => ⟨(fun k h => by cases h), k2, g9, m2, g10⟩, g11⟩
    | 2, hq => cases hq; exact ⟨fun n z => ⟨(fun k h => by cases h), k3, g14, m3, g15⟩, k3, m3, g14, g15, g12, g16⟩
    | 3, hq => cases hq; exact ⟨fun n z => ⟨(fun k h => by cases h), k1, g5, m1, g6⟩, g4⟩
    | k + 4, hq => simp [xtys] at hq
theorem lw_kNw {s : State} {args : Array Value} (hts0 : ∀ w ∈ lw_tbl, w.before args s = true) : kNw s := ⟨va_Nw.of rfl (hts0 (.methodLinkNest RX8 9 yX5_init "QuietYards") (by decide +kernel)), va_Nw.of rfl (hts0 (.methodLinkNest RX5 11 yX7_init "QuietYards") (by decide +kernel)), va_Nw.of rfl (hts0 (.methodLinkNest RX8 18 yX6_init "QuietYards") (by decide +kernel)), va_Nw.of rfl (hts0 (.methodLinkNest RX8 25 yX4_init "QuietYards") (by decide +kernel)), va_Nw.of rfl (hts0 (.methodLinkNest RX8 32 yX1_init "QuietYards") (by decide +kernel)), va_Nw.of rfl (hts0 (.methodLinkNest RX8 45 yX2_init "QuietYards") (by decide +kernel)), va_Nw.of rfl (hts0 (.methodLinkNest RX2 20 yX0_init "QuietYards") (by decide +kernel)), va_Nw.of rfl (hts0 (.methodLinkNest RX8 53 yX3_init "QuietYards") (by decide +kernel)), va_Nw.of rfl (hts0 (.methodLinkNest RX3 9 yX0_init "QuietYards") (by decide +kernel)), va_Nw.of rfl (hts0 (.methodLinkNest RX3 18 yX1_init "QuietYards") (by decide +kernel)), va_AO.of (hts0 (.arrayOver (.object "QuietYards$Image")) (by decide +kernel)), va_AOA.of (hts0 (.arrayOver (.array .int)) (by decide +kernel))⟩
def lwTm (i : Nat) : Term := .string RX5 (xsIx.getD i 0)
/-- the text constants, and what else of the JDK a text's charAt reads -/
theorem lw_xNw {s : State} {args : Array Value} {A : Nat → Prop} (b : Nat) (hts0 : ∀ w ∈ lw_tbl, w.before args s = true) (hgv : (Jvm.Cond.and given_1 narrow_1).before args s = true) (hA : ∀ a : Nat, a < s.heap.size → ¬ A a) : ∃ u : Nat → Nat, u 300 = b ∧ xNw u A s s.heap := by
  have hs := flat_of_before _ hgv
  obtain ⟨adK, adV, h1, h2⟩ := vk_Sof (args := args) (s := s) (N := 10) (tm := lwTm) (len := xsLn) (byt := xsBy) (A := A) (by decide) (fun i hi => hs _ ((by decide +kernel : ∀ i, i < 10 → Cond.exactly (lwTm i) "java/lang/String" ∈ flatC (Jvm.Cond.and given_1 narrow_1)) i hi)) (fun i hi => hs _ ((by decide +kernel : ∀ i, i < 10 → Cond.eq (.field (lwTm i) "java/lang/String" "coder" "B") (.int 0) ∈ flatC (Jvm.Cond.and given_1 narrow_1)) i hi)) (fun i hi => hs _ ((by decide +kernel : ∀ i, i < 10 → Cond.arrayOf (.field (lwTm i) "java/lang/String" "value" "[B") .byte ∈ flatC (Jvm.Cond.and given_1 narrow_1)) i hi)) (fun i hi => hs _ ((by decide +kernel : ∀ i, i < 10 → Cond.eq (.length (.field (lwTm i) "java/lang/String" "value" "[B")) (.int (Int32.ofNat (xsLn.getD i 0))) ∈ flatC (Jvm.Cond.and given_1 narrow_1)) i hi)) (fun i hi j hj => hs _ ((by decide +kernel : ∀ i, i < 10 → ∀ j, j < xsLn.getD i 0 → Cond.eq (.elem (.field (lwTm i) "java/lang/String" "value" "[B") (.int (Int32.ofNat j))) (.int ((xsBy.getD i []).getD j 0)) ∈ flatC (Jvm.Cond.and given_1 narrow_1)) i hi j hj)) (fun i j hi hj hij => ((by decide +kernel : ∀ i, i < 10 → ∀ j, j < 10 → i ≠ j → (Cond.not (Cond.eq (lwTm i) (lwTm j)) ∈ flatC (Jvm.Cond.and given_1 narrow_1) ∨ Cond.not (Cond.eq (lwTm j) (lwTm i)) ∈ flatC (Jvm.Cond.and given_1 narrow_1))) i hi j hj hij).imp (hs _) (hs _)) hA
  refine ⟨fun i => if i = 300 then b else if i < 200 then adK (i - 100) else adV (i - 200), if_pos rfl, va_Nw.of rfl (hts0 (.methodLinkNest RX5 116 yX8_within "QuietYards") (by decide +kernel)), va_Nw.of rfl (hts0 (.methodLinkNest RX5 84 yX8_mostOf "QuietYards") (by decide +kernel)), ?_, ?_, ?_, ?_⟩
  · exact va_Zof (hts0 (.laysStatic "java/lang/String" "COMPACT_STRINGS" "Z") (by decide +kernel)) (hts0 (.initialized "java/lang/String") (by decide +kernel)) (va_eqi (hs (.eq (.static "java/lang/String" "COMPACT_STRINGS" "Z") (.int 1)) (by decide +kernel))) hA
  · exact va_Zqof (hts0 (.laysStatic "jdk/internal/util/Preconditions" "SIOOBE_FORMATTER" "Ljava/util/function/BiFunction;") (by decide +kernel)) (hts0 (.initialized "jdk/internal/util/Preconditions") (by decide +kernel)) (hs (.isRef (.static "jdk/internal/util/Preconditions" "SIOOBE_FORMATTER" "Ljava/util/function/BiFunction;")) (by decide +kernel)) hA
  · have e1 : ∀ i, i < 10 → (if 100 + i = 300 then b else if 100 + i < 200 then adK (100 + i - 100) else adV (100 + i - 200)) = adK i := fun i hi => by
      rw [if_neg (by omega), if_pos (by omega), show 100 + i - 100 = i by omega]
    have e2 : ∀ i, i < 10 → (if 200 + i = 300 then b else if 200 + i < 200 then adK (200 + i - 100) else adV (200 + i - 200)) = adV i := fun i hi => by
      rw [if_neg (by omega), if_neg (by omega), show 200 + i - 200 = i by omega]
    refine ⟨fun i hi => ?_, fun i j hi hj h => h1.2 i j hi hj ?_⟩
    · show va_O _ (if 100 + i = 300 then b else if 100 + i < 200 then adK (100 + i - 100) else adV (100 + i - 200)) _ _ _ ∧ va_OF _ _ _ _ (if 100 + i = 300 then b else if 100 + i < 200 then adK (100 + i - 100) else adV (100 + i - 200)) _ _ _ ∧ va_OF _ _ _ (.ref (if 200 + i = 300 then b else if 200 + i < 200 then adK (200 + i - 100) else adV (200 + i - 200))) (if 100 + i = 300 then b else if 100 + i < 200 then adK (100 + i - 100) else adV (100 + i - 200)) _ _ _ ∧ va_T _ (if 200 + i = 300 then b else if 200 + i < 200 then adK (200 + i - 100) else adV (200 + i - 200)) _ _ _ _ _
      rw [e1 i hi, e2 i hi]
      exact h1.1 i hi
    · have h9 : (if 100 + i = 300 then b else if 100 + i < 200 then adK (100 + i - 100) else adV (100 + i - 200)) = (if 100 + j = 300 then b else if 100 + j < 200 then adK (100 + j - 100) else adV (100 + j - 200)) := h
      rw [e1 i hi, e1 j hj] at h9
      exact h9
  · intro i hi
    have e1 : (if 100 + i = 300 then b else if 100 + i < 200 then adK (100 + i - 100) else adV (100 + i - 200)) = adK i := by
      rw [if_neg (by omega), if_pos (by omega), show 100 + i - 100 = i by omega]
    show vk_R _ _ _ (if 100 + i = 300 then b else if 100 + i < 200 then adK (100 + i - 100) else adV (100 + i - 200)) _
    rw [e1]
    exact vk_R.of (hts0 _ ((by decide +kernel : ∀ i, i < 10 → Cond.stringRef RX5 (xsIx.getD i 0) (xsTx.getD i "") ∈ lw_tbl) i hi)) (h2 i hi)
