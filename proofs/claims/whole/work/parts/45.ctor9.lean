/-! the reference's constructor, over the class's cells; the law's start -/
/-- what all cells hold when the reference's rows are made, before it begins -/
def m1 (i : Nat) : Nat → Int32 := if i = 81 then (fun k => if k = 11 then 3 else 0) else m0 i
def M01 : xMem := (m1, fun _ => 0)
def xwith (G : xG) (a : Nat → Nat) (nc ns : Nat) : xG := match G with
  | (p, l, e, R, s, m, args, below, meth, c, nL, A, H0, Q, D, _, cs, _, _) => (p, l, e, R, s, m, args, below, meth, c, nL, A, H0, Q, D, a, cs, nc, ns)
def kEnv (G : xG) (a : Nat → Nat) : Prop := match G with
  | (p, l, e, R, s, m, args, below, meth, c, nL, A, H0, Q, D, _, cs, _, _) => xNw a A s H0 ∧ H0 = s.heap
theorem xNw_ext {a b : Nat → Nat} {A : Nat → Prop} {U : State} {H : Heap} (e : ∀ i, 100 ≤ i → a i = b i) (h : xNw a A U H) : xNw b A U H := by
  obtain ⟨h1, h2, h3, h4, h5, h6⟩ := h
  have e1 : (fun i => b (100 + i)) = (fun i => a (100 + i)) := funext fun i => (e (100 + i) (by omega)).symm
  have e2 : (fun i => b (200 + i)) = (fun i => a (200 + i)) := funext fun i => (e (200 + i) (by omega)).symm
  refine ⟨h1, h2, h3, h4, ?_, fun i hi => ?_⟩
  · rw [e1, e2]
    exact h5
  · rw [← e (100 + i) (by omega)]
    exact h6 i hi
/-- from a world of ninety cells on, all is told by the memory -/
theorem k_toX {G : xG} {w : va_W} {nc ns : Nat} {lv : List (Option Value)} {st : List Value} {pc : Nat} {cc : ByteArray} {own : String} {ws : List Cond} {rm : Room} (a b : Nat → Nat) (M : xMem) (hG : kOk G cc own ws rm) (hE : kEnv G b) (hab : ∀ i, 100 ≤ i → a i = b i) (hc : nc ≤ rm.cells) (hs : ns ≤ rm.slots) (hPx : ∀ D H, va_P D vwCl w H → va_P D vwCl (xWd a (xC G) M) H) (hDx : ∀ A, va_D A w → va_D A (xWd a (xC G) M)) (k : xOk (xwith G a nc ns) cc own ws rm → xW (xwith G a nc ns) M lv st pc) : kW G w nc ns lv st pc := by
  obtain ⟨p, l, e0, R, s, m, args, below, meth, c, nL, A, H0, Q, D, a0, cs, kc, ks⟩ := G
  obtain ⟨hx, hb, hml, hown, hts, hK, hA, hR, hNw, hin⟩ := hG
  obtain ⟨hE1, hE2⟩ := hE
  subst hR
  intro H locs ls hP hD hS hl
  have hP : va_P D vwCl (xWd a cs M) H := hPx D H hP
  have hD : va_D A (xWd a cs M) := hDx A hD
  have hA90 : ∀ i, i < 90 → A (a i) := fun i hi => hD.2 i (a i, xcell a cs M i) (xWd_at hi)
  have hI : xInj a := fun i j hi hj h => hD.1 i j (a i, xcell a cs M i) (a j, xcell a cs M j) (xWd_at hi) (xWd_at hj) h
  exact k ⟨hx, hb, hml, hown, hts, hK, hI, hA90, hA, rfl, hc, hs, xNw_ext (fun i hi => (hab i hi).symm) hE1, hE2⟩ H locs ls hP hS hl
theorem kBl_get (cs : xCs) (u : Nat → Nat) {i : Nat} (h : i < 81) : (kBl cs 0 81 u)[i]? = some (u i, xcell (fun j => u (j - 0)) cs M00 (0 + i)) := by
  unfold kBl
  rw [List.getElem?_map, List.getElem?_range h]
  rfl
theorem kBl_len (cs : xCs) (u : Nat → Nat) : (kBl cs 0 81 u).length = 81 := by
  unfold kBl
  rw [List.length_map, List.length_range]
theorem xcell_M {a : Nat → Nat} {cs : xCs} {M N : xMem} {i : Nat} (e1 : M.1 i = N.1 i) (e2 : M.2 = N.2) : xcell a cs M i = xcell a cs N i := by
  unfold xcell
  rw [e1, e2]
theorem xcell_cong {D : va_G} {H : Heap} {q : Nat} {a b : Nat → Nat} {cs : xCs} {M : xMem} {i : Nat} (hab : ∀ j, j < 81 → a j = b j) (hi : i < 81) (h5 : (M.1 0 5).toNatClampNeg < 81) (h6 : (M.1 0 6).toNatClampNeg < 81) (h : va_at D vwCl (q, xcell a cs M i) H) : va_at D vwCl (q, xcell b cs M i) H := by
  have hk : kd i = 0 ∨ kd i = 1 ∨ kd i = 2 ∨ kd i = 3 ∨ kd i = 4 ∨ kd i = 5 ∨ kd i = 6 ∨ kd i = 7 ∨ kd i = 8 ∨ kd i = 10 ∨ kd i = 11 ∨ kd i = 12 := (by decide : ∀ i, i < 81 → (kd i = 0 ∨ kd i = 1 ∨ kd i = 2 ∨ kd i = 3 ∨ kd i = 4 ∨ kd i = 5 ∨ kd i = 6 ∨ kd i = 7 ∨ kd i = 8 ∨ kd i = 10 ∨ kd i = 11 ∨ kd i = 12)) i hi
  rcases hk with hk | hk | hk | hk | hk | hk | hk | hk | hk | hk | hk | hk
  · have hb : i + 2 < 81 := (by decide : ∀ i, i < 81 → kd i = 0 → i + 2 < 81) i hi hk
    rw [xc_0 hk] at h ⊢
    rw [← hab (i + 1) (by omega), ← hab (i + 2) (by omega)]
    exact h
  · have hb : i + 2 < 81 := (by decide : ∀ i, i < 81 → kd i = 1 → i + 2 < 81) i hi hk
    rw [xc_1 hk] at h ⊢
    rw [← hab (i + 1) (by omega), ← hab (i + 2) (by omega)]
    exact h
  · have hb : i + 22 < 81 := (by decide : ∀ i, i < 81 → kd i = 2 → i + 22 < 81) i hi hk
    rw [xc_2 hk] at h ⊢
    rw [← hab (i + 1) (by omega), ← hab (i + 4) (by omega), ← hab (i + 11) (by omega), ← hab (i + 20) (by omega), ← hab (i + 21) (by omega), ← hab (i + 22) (by omega)]
    exact h
  · have hb : i + 4 < 81 := (by decide : ∀ i, i < 81 → kd i = 3 → i + 4 < 81) i hi hk
    rw [xc_3 hk] at h ⊢
    rw [← hab (i + 1) (by omega), ← hab (i + 4) (by omega)]
    exact h
  · have hb : i + 2 < 81 := (by decide : ∀ i, i < 81 → kd i = 4 → i + 2 < 81) i hi hk
    rw [xc_4 hk] at h ⊢
    rw [← hab (i + 1) (by omega), ← hab (i + 2) (by omega)]
    exact h
  · have hb : i + 3 < 81 := (by decide : ∀ i, i < 81 → kd i = 5 → i + 3 < 81) i hi hk
    rw [xc_5 hk] at h ⊢
    rw [← hab (i + 1) (by omega), ← hab (i + 3) (by omega)]
    exact h
  · have hb : i + 8 < 81 := (by decide : ∀ i, i < 81 → kd i = 6 → i + 8 < 81) i hi hk
    rw [xc_6 hk] at h ⊢
    rw [← hab (i + 1) (by omega), ← hab (i + 8) (by omega)]
    exact h
  · have hb : i + 1 < 81 := (by decide : ∀ i, i < 81 → kd i = 7 → i + 1 < 81) i hi hk
    rw [xc_7 hk] at h ⊢
    rw [← hab (i + 1) (by omega)]
    exact h
  · have e : i = 0 := (kd_one i (by omega)).1 hk
    subst e
    rw [xc_8 hk] at h ⊢
    rw [← hab (0 + 1) (by omega), ← hab (0 + 5) (by omega), ← hab (0 + 14) (by omega), ← hab (0 + 17) (by omega), ← hab (0 + 20) (by omega), ← hab _ h5, ← hab _ h6]
    exact h
  · rw [xc_10 hk] at h ⊢
    exact h
  · rw [xc_11 hk] at h ⊢
    exact va_atq h (fun j hj => by rw [hab (i + 1 + j) ((by decide : ∀ i, i < 81 → kd i = 11 → ∀ j, j < ln i → i + 1 + j < 81) i hi hk j hj)])
  · rw [xc_12 hk] at h ⊢
    exact va_atq h (fun j hj => by rw [hab (i + 1 + 7 * j) ((by decide : ∀ i, i < 81 → kd i = 12 → ∀ j, j < ln i → i + 1 + 7 * j < 81) i hi hk j hj)])
theorem kBl_to {D : va_G} {H : Heap} {cs : xCs} {u a : Nat → Nat} {T : va_W} (hau : ∀ i, i < 81 → u i = a i) (hT : T = (List.range 9).map (fun i => (a (81 + i), xcell a cs M01 (81 + i)))) (hP : va_P D vwCl (kBl cs 0 81 u ++ T) H) : va_P D vwCl (xWd a cs M01) H := by
  intro k q hk
  obtain ⟨hk9, rfl⟩ := xWd_of hk
  by_cases h : k < 81
  · have h1 := hP k (u k, xcell (fun j => u (j - 0)) cs M00 (0 + k)) (by rw [List.getElem?_append_left (by rw [kBl_len]; exact h)]; exact kBl_get cs u h)
    rw [Nat.zero_add] at h1
    have h2 : va_at D vwCl (u k, xcell a cs M00 k) H := xcell_cong (a := fun j => u (j - 0)) (fun j hj => hau j hj) h (by decide) (by decide) h1
    have h3 : xcell a cs M00 k = xcell a cs M01 k := xcell_M (by show m0 k = m1 k; unfold m1; rw [if_neg (by omega)]) rfl
    rw [← hau k h, ← h3]
    exact h2
  · have h1 : (kBl cs 0 81 u ++ T)[k]? = some (a k, xcell a cs M01 k) := by
      rw [List.getElem?_append_right (by rw [kBl_len]; omega), kBl_len, hT, List.getElem?_map, List.getElem?_range (by omega)]
      show some (a (81 + (k - 81)), xcell a cs M01 (81 + (k - 81))) = _
      rw [show 81 + (k - 81) = k by omega]
    exact hP k _ h1
theorem kBl_toD {A : Nat → Prop} {cs : xCs} {u a : Nat → Nat} {T : va_W} (hau : ∀ i, i < 81 → u i = a i) (hT : T = (List.range 9).map (fun i => (a (81 + i), xcell a cs M01 (81 + i)))) (hD : va_D A (kBl cs 0 81 u ++ T)) : va_D A (xWd a cs M01) := by
  have at' : ∀ k, k < 90 → ∃ e, (kBl cs 0 81 u ++ T)[k]? = some (a k, e) := by
    intro k hk9
    by_cases h : k < 81
    · refine ⟨xcell (fun j => u (j - 0)) cs M00 (0 + k), ?_⟩
      rw [List.getElem?_append_left (by rw [kBl_len]; exact h), kBl_get cs u h, hau k h]
    · refine ⟨xcell a cs M01 k, ?_⟩
      rw [List.getElem?_append_right (by rw [kBl_len]; omega), kBl_len, hT, List.getElem?_map, List.getElem?_range (by omega)]
      show some (a (81 + (k - 81)), xcell a cs M01 (81 + (k - 81))) = _
      rw [show 81 + (k - 81) = k by omega]
  refine ⟨fun i j p q hp hq hpq => ?_, fun k q hq => ?_⟩
  · obtain ⟨h1, rfl⟩ := xWd_of hp
    obtain ⟨h2, rfl⟩ := xWd_of hq
    obtain ⟨e1, g1⟩ := at' i h1
    obtain ⟨e2, g2⟩ := at' j h2
    exact hD.1 i j _ _ g1 g2 hpq
  · obtain ⟨h1, rfl⟩ := xWd_of hq
    obtain ⟨e1, g1⟩ := at' k h1
    exact hD.2 k (a k, e1) g1
section KB
variable {G : xG} {B T : va_W} {nc ns : Nat} {lv : List (Option Value)} {rest : List Value} {pc : Nat} {cc : ByteArray} {own : String} {ws : List Cond} {rm : Room}
theorem kB_newi {n : Int32} {N : Nat} (hG : kOk G cc own ws rm) (hd : decode cc pc = .ok (.newarray .int, 2)) (harr : Cond.arrayClass .int ∈ ws) (hn : ¬ n < 0) (hN : n.toNatClampNeg = N) (hby : N * 4 ≤ 536870912) (hcells : nc + 1 ≤ rm.cells) (hslots : ns + N ≤ rm.slots) (k : ∀ q, kW G (B ++ (T ++ [(q, .inl ((xC G).1, N, .inl (fun _ => 0)))])) (nc + 1) (ns + N) lv (.ref q :: rest) (pc + 2)) : kW G (B ++ T) nc ns lv (.int n :: rest) pc := k_newi hG hd harr hn hN hby hcells hslots (fun q => by rw [List.append_assoc]; exact k q)
theorem kB_newz {n : Int32} {N : Nat} (hG : kOk G cc own ws rm) (hd : decode cc pc = .ok (.newarray .boolean, 2)) (harr : Cond.arrayClass .boolean ∈ ws) (hn : ¬ n < 0) (hN : n.toNatClampNeg = N) (hby : N * 1 ≤ 536870912) (hcells : nc + 1 ≤ rm.cells) (hslots : ns + N ≤ rm.slots) (k : ∀ q, kW G (B ++ (T ++ [(q, .inl ((xC G).2.2.2, N, .inl (fun _ => 0)))])) (nc + 1) (ns + N) lv (.ref q :: rest) (pc + 2)) : kW G (B ++ T) nc ns lv (.int n :: rest) pc := k_newz hG hd harr hn hN hby hcells hslots (fun q => by rw [List.append_assoc]; exact k q)
theorem kB_at {x : Nat × va_E} (hB : B.length = 81) (h : T[0]? = some x) : (B ++ T)[81]? = some x := by
  rw [List.getElem?_append_right (by omega), hB]
  exact h
theorem kB_set {x : Nat × va_E} (hB : B.length = 81) : (B ++ T).set 81 x = B ++ T.set 0 x := by
  rw [List.set_append_right _ _ (by omega), hB]
theorem kB_putF {index a0 : Nat} {fs : List Value} {v : Value} (hB : B.length = 81) (hG : kOk G cc RX9 ws rm) (hd : decode cc pc = .ok (.putfield index, 3)) (hin0 : ∀ v ∈ wsX90, v ∈ ws) (he : T[0]? = some (a0, .inr (9, fs))) (j : Nat) (hj : j < 27) (hlink : Cond.fieldLink RX9 index (TX9 j).1 (TX9 j).2.1 (TX9 j).2.2.1 ∈ ws) (hfin : (TX9 j).2.2.2 = true) (hdecl : (TX9 j).1 = RX9) (hn : narrow (tyX9 j) v = v) (hfit : fits (tyX9 j) v = true) (hl0 : j < fs.length) (k : kW G (B ++ T.set 0 (a0, .inr (9, fs.set j v))) nc ns lv rest (pc + 3)) : kW G (B ++ T) nc ns lv (v :: .ref a0 :: rest) pc := k_putF (C := RX9) (T := TX9) (N := 27) (q0 := 81) hG hd hin0 tyX9 tyX9_ok nmX9 (kB_at hB he) rfl j hj hlink hfin hdecl (by decide +kernel) hn hfit hl0 (by rw [kB_set hB]; exact k)
theorem kB_put {index a0 : Nat} {fs : List Value} {v : Value} (hB : B.length = 81) (hG : kOk G cc own ws rm) (hd : decode cc pc = .ok (.putfield index, 3)) (hin0 : ∀ v ∈ wsX90, v ∈ ws) (he : T[0]? = some (a0, .inr (9, fs))) (j : Nat) (hj : j < 27) (hlink : Cond.fieldLink own index (TX9 j).1 (TX9 j).2.1 (TX9 j).2.2.1 ∈ ws) (hfin : (TX9 j).2.2.2 = false) (hn : narrow (tyX9 j) v = v) (hfit : fits (tyX9 j) v = true) (hl0 : j < fs.length) (k : kW G (B ++ T.set 0 (a0, .inr (9, fs.set j v))) nc ns lv rest (pc + 3)) : kW G (B ++ T) nc ns lv (v :: .ref a0 :: rest) pc := k_put (C := RX9) (T := TX9) (N := 27) (q0 := 81) hG hd hin0 tyX9 tyX9_ok nmX9 (kB_at hB he) rfl j hj hlink hfin hn hfit hl0 (by rw [kB_set hB]; exact k)
theorem kB_cast {T2 : va_W} {st : List Value} (e : T = T2) (k : kW G (B ++ T2) nc ns lv st pc) : kW G (B ++ T) nc ns lv st pc := e ▸ k
end KB
abbrev rm_X9_init : Room := { frames := 2, cells := 8, slots := 1694, locals := 60 }
theorem hy_X9_init : yX9_init.cls ≠ "java/lang/invoke/MethodHandle" ∧ yX9_init.cls ≠ "java/lang/invoke/VarHandle" ∧ (parseMethodDescriptor yX9_init.desc).map (fun d => d.parameters.length) = some 0 := by decide +kernel
theorem hin_X9_init_X9 : ∀ w ∈ wsX90, w ∈ wsX9_init := fun _ h => List.mem_cons_of_mem _ (List.mem_append_right _ h)
set_option maxRecDepth 100000 in
set_option maxHeartbeats 16000000 in
theorem c_X9_init (l : Launch) (D : va_G) (cs : xCs) (sz h0 : Nat) (u : Nat → Nat) (Pz : xMem → Prop) (h : w_X9_begins M01 (fun M1 => w_X9_adopts M1 Pz)) : Met l yX9_init wsX9_init rm_X9_init (va_Pc [.ref h0] (fun U => U.heap.size = sz ∧ va_P D vwCl (kBl cs 0 81 u ++ [(h0, .inr (9, [.int 0, .long 0, .null, .int 0, .int 0, .int 0, .int 0, .int 0, .int 0, .int 0, .int 0, .int 0, .int 0, .int 0, .null, .null, .null, .null, .null, .null, .int 0, .int 0, .int 0, .int 0, .null, .int 0, .int 0]))]) U.heap ∧ va_K D vwCl (xtys cs) U ∧ va_D (fun _ => True) (kBl cs 0 81 u ++ [(h0, .inr (9, [.int 0, .long 0, .null, .int 0, .int 0, .int 0, .int 0, .int 0, .int 0, .int 0, .int 0, .int 0, .int 0, .int 0, .null, .null, .null, .null, .null, .null, .int 0, .int 0, .int 0, .int 0, .null, .int 0, .int 0]))]) ∧ kNw U ∧ xNw u (va_A (kBl cs 0 81 u ++ [(h0, .inr (9, [.int 0, .long 0, .null, .int 0, .int 0, .int 0, .int 0, .int 0, .int 0, .int 0, .int 0, .int 0, .int 0, .int 0, .null, .null, .null, .null, .null, .null, .int 0, .int 0, .int 0, .int 0, .null, .int 0, .int 0]))]) sz) U U.heap)) (va_Qv (fun z : (Nat → Nat) × xMem => Pz z.2) (fun z t => va_P D vwCl (xWd z.1 cs z.2) t.heap ∧ va_D (va_A (kBl cs 0 81 u ++ [(h0, .inr (9, [.int 0, .long 0, .null, .int 0, .int 0, .int 0, .int 0, .int 0, .int 0, .int 0, .int 0, .int 0, .int 0, .int 0, .null, .null, .null, .null, .null, .null, .int 0, .int 0, .int 0, .int 0, .null, .int 0, .int 0]))]) sz) (xWd z.1 cs z.2) ∧ (∀ i, 100 ≤ i → z.1 i = u i) ∧ z.1 0 = u 0 ∧ z.1 81 = h0) (va_A (kBl cs 0 81 u ++ [(h0, .inr (9, [.int 0, .long 0, .null, .int 0, .int 0, .int 0, .int 0, .int 0, .int 0, .int 0, .int 0, .int 0, .int 0, .int 0, .null, .null, .null, .null, .null, .null, .int 0, .int 0, .int 0, .int 0, .null, .int 0, .int 0]))]) sz)) 8 1694 (va_A (kBl cs 0 81 u ++ [(h0, .inr (9, [.int 0, .long 0, .null, .int 0, .int 0, .int 0, .int 0, .int 0, .int 0, .int 0, .int 0, .int 0, .int 0, .int 0, .null, .null, .null, .null, .null, .null, .int 0, .int 0, .int 0, .int 0, .null, .int 0, .int 0]))]) sz) := by
  refine Met.ofW (cc := cX9_init) (maxL := 1) (ret := none) (by decide) rfl ?_
  intro p e s m args below meth c s₁ B hml hv
  obtain ⟨rfl, hsz, hP, hK, hD0, hNw, hE⟩ := hv
  subst hsz
  have hts := atoms_spec (ws := wsX9_init) B.pre
  have hown : s.vm.findClass RX9 = some m.cls := findClass_of_methodNamed B.named
  have hin : meth.name = "<init>" := (name_of_methodNamed B.named B.method).1
  have hD := hD0.self (sz := s.heap.size)
  rw [lg_entry_eq]
  have hl := lv_entry [.ref h0] (n := 1) (Nat.le_of_ble_eq_true rfl)
  have hlx : xl _ 1 [some (.ref h0)] := xl_of hl rfl rfl
  generalize hAe : va_A (kBl cs 0 81 u ++ [(h0, .inr (9, [.int 0, .long 0, .null, .int 0, .int 0, .int 0, .int 0, .int 0, .int 0, .int 0, .int 0, .int 0, .int 0, .int 0, .null, .null, .null, .null, .null, .null, .int 0, .int 0, .int 0, .int 0, .null, .int 0, .int 0]))]) s.heap.size = A at hD hE ⊢
  have hAn : ∀ q : Nat, s.heap.size ≤ q → A q := fun q h => by rw [← hAe]; exact Or.inr h
  obtain ⟨G, hGe⟩ : ∃ G : xG, G = (p, l, e, (headSpec wsX9_init rm_X9_init).room, s, m, [Value.ref h0].toArray, below, meth, c, 1, A, s.heap, MQ below (va_Qv (fun z : (Nat → Nat) × xMem => Pz z.2) (fun z t => va_P D vwCl (xWd z.1 cs z.2) t.heap ∧ va_D A (xWd z.1 cs z.2) ∧ (∀ i, 100 ≤ i → z.1 i = u i) ∧ z.1 0 = u 0 ∧ z.1 81 = h0) A) [Value.ref h0].toArray s 8 1694 A, D, u, cs, 0, 0) := ⟨_, rfl⟩
  have hC : xC G = cs := by rw [hGe]; rfl
  have hG : kOk G cX9_init RX9 wsX9_init rm_X9_init := by
    rw [hGe]
    exact ⟨B.exec, B.bytes, hml, hown, hts, hK, hAn, rfl, hNw, fun _ => hin⟩
  have hEn : kEnv G u := by
    rw [hGe]
    exact ⟨hE, rfl⟩
  have main : kW G (kBl cs 0 81 u ++ [(h0, .inr (9, [.int 0, .long 0, .null, .int 0, .int 0, .int 0, .int 0, .int 0, .int 0, .int 0, .int 0, .int 0, .int 0, .int 0, .null, .null, .null, .null, .null, .null, .int 0, .int 0, .int 0, .int 0, .null, .int 0, .int 0]))]) 0 0 [some (.ref h0)] [] 0 := by
    rw [← hC]
    refine k_aload_n hG dX9_init_0 rfl rfl ?_
    refine k_objInit hG dX9_init_1 (List.mem_of_getElem? (i := 1) rfl) (List.mem_of_getElem? (i := 2) rfl) (List.mem_of_getElem? (i := 3) rfl) (Nat.le_of_ble_eq_true rfl) (Nat.le_of_ble_eq_true rfl) ?_
    refine k_aload_n hG dX9_init_4 rfl rfl ?_
    refine k_sipush (v := (400 : Int32)) hG dX9_init_5 (by decide) ?_
    refine kB_newi (N := 400) hG dX9_init_8 (List.mem_of_getElem? (i := 4) rfl) (by decide) (by decide) (Nat.le_of_ble_eq_true rfl) (Nat.le_of_ble_eq_true rfl) (Nat.le_of_ble_eq_true rfl) (fun q1 => ?_)
    refine kB_putF (kBl_len _ _) hG dX9_init_10 hin_X9_init_X9 rfl 2 (by decide) (List.mem_of_getElem? (i := 5) rfl) rfl rfl rfl rfl (Nat.le_of_ble_eq_true rfl) ?_
    refine k_aload_n hG dX9_init_13 rfl rfl ?_
    refine k_sipush (v := (207 : Int32)) hG dX9_init_14 (by decide) ?_
    refine kB_newi (N := 207) hG dX9_init_17 (List.mem_of_getElem? (i := 4) rfl) (by decide) (by decide) (Nat.le_of_ble_eq_true rfl) (Nat.le_of_ble_eq_true rfl) (Nat.le_of_ble_eq_true rfl) (fun q2 => ?_)
    refine kB_putF (kBl_len _ _) hG dX9_init_19 hin_X9_init_X9 rfl 14 (by decide) (List.mem_of_getElem? (i := 6) rfl) rfl rfl rfl rfl (Nat.le_of_ble_eq_true rfl) ?_
    refine k_aload_n hG dX9_init_22 rfl rfl ?_
    refine k_sipush (v := (207 : Int32)) hG dX9_init_23 (by decide) ?_
    refine kB_newi (N := 207) hG dX9_init_26 (List.mem_of_getElem? (i := 4) rfl) (by decide) (by decide) (Nat.le_of_ble_eq_true rfl) (Nat.le_of_ble_eq_true rfl) (Nat.le_of_ble_eq_true rfl) (fun q3 => ?_)
    refine kB_putF (kBl_len _ _) hG dX9_init_28 hin_X9_init_X9 rfl 15 (by decide) (List.mem_of_getElem? (i := 7) rfl) rfl rfl rfl rfl (Nat.le_of_ble_eq_true rfl) ?_
    refine k_aload_n hG dX9_init_31 rfl rfl ?_
    refine k_sipush (v := (414 : Int32)) hG dX9_init_32 (by decide) ?_
    refine kB_newi (N := 414) hG dX9_init_35 (List.mem_of_getElem? (i := 4) rfl) (by decide) (by decide) (Nat.le_of_ble_eq_true rfl) (Nat.le_of_ble_eq_true rfl) (Nat.le_of_ble_eq_true rfl) (fun q4 => ?_)
    refine kB_putF (kBl_len _ _) hG dX9_init_37 hin_X9_init_X9 rfl 16 (by decide) (List.mem_of_getElem? (i := 8) rfl) rfl rfl rfl rfl (Nat.le_of_ble_eq_true rfl) ?_
    refine k_aload_n hG dX9_init_40 rfl rfl ?_
    refine k_iconst (v := (2 : Int32)) hG dX9_init_41 (by decide) ?_
    refine kB_newz (N := 2) hG dX9_init_42 (List.mem_of_getElem? (i := 9) rfl) (by decide) (by decide) (Nat.le_of_ble_eq_true rfl) (Nat.le_of_ble_eq_true rfl) (Nat.le_of_ble_eq_true rfl) (fun q5 => ?_)
    refine kB_putF (kBl_len _ _) hG dX9_init_44 hin_X9_init_X9 rfl 17 (by decide) (List.mem_of_getElem? (i := 10) rfl) rfl rfl rfl rfl (Nat.le_of_ble_eq_true rfl) ?_
    refine k_aload_n hG dX9_init_47 rfl rfl ?_
    refine k_bipush (v := (48 : Int32)) hG dX9_init_48 (by decide) ?_
    refine kB_newi (N := 48) hG dX9_init_50 (List.mem_of_getElem? (i := 4) rfl) (by decide) (by decide) (Nat.le_of_ble_eq_true rfl) (Nat.le_of_ble_eq_true rfl) (Nat.le_of_ble_eq_true rfl) (fun q6 => ?_)
    refine kB_putF (kBl_len _ _) hG dX9_init_52 hin_X9_init_X9 rfl 18 (by decide) (List.mem_of_getElem? (i := 11) rfl) rfl rfl rfl rfl (Nat.le_of_ble_eq_true rfl) ?_
    refine k_aload_n hG dX9_init_55 rfl rfl ?_
    refine k_bipush (v := (80 : Int32)) hG dX9_init_56 (by decide) ?_
    refine kB_newi (N := 80) hG dX9_init_58 (List.mem_of_getElem? (i := 4) rfl) (by decide) (by decide) (Nat.le_of_ble_eq_true rfl) (Nat.le_of_ble_eq_true rfl) (Nat.le_of_ble_eq_true rfl) (fun q7 => ?_)
    refine kB_putF (kBl_len _ _) hG dX9_init_60 hin_X9_init_X9 rfl 19 (by decide) (List.mem_of_getElem? (i := 12) rfl) rfl rfl rfl rfl (Nat.le_of_ble_eq_true rfl) ?_
    refine k_aload_n hG dX9_init_63 rfl rfl ?_
    refine k_sipush (v := (336 : Int32)) hG dX9_init_64 (by decide) ?_
    refine kB_newi (N := 336) hG dX9_init_67 (List.mem_of_getElem? (i := 4) rfl) (by decide) (by decide) (Nat.le_of_ble_eq_true rfl) (Nat.le_of_ble_eq_true rfl) (Nat.le_of_ble_eq_true rfl) (fun q8 => ?_)
    refine kB_putF (kBl_len _ _) hG dX9_init_69 hin_X9_init_X9 rfl 24 (by decide) (List.mem_of_getElem? (i := 13) rfl) rfl rfl rfl rfl (Nat.le_of_ble_eq_true rfl) ?_
    refine k_aload_n hG dX9_init_72 rfl rfl ?_
    refine k_iconst (v := (3 : Int32)) hG dX9_init_73 (by decide) ?_
    refine kB_put (kBl_len _ _) hG dX9_init_74 hin_X9_init_X9 rfl 11 (by decide) (List.mem_of_getElem? (i := 14) rfl) rfl rfl rfl (Nat.le_of_ble_eq_true rfl) ?_
    refine kB_cast (T2 := [(h0, .inr (9, [.int 0, .long 0, .ref q1, .int 0, .int 0, .int 0, .int 0, .int 0, .int 0, .int 0, .int 0, .int 3, .int 0, .int 0, .ref q2, .ref q3, .ref q4, .ref q5, .ref q6, .ref q7, .int 0, .int 0, .int 0, .int 0, .ref q8, .int 0, .int 0])), (q1, .inl ((xC G).1, 400, .inl (fun _ => 0))), (q2, .inl ((xC G).1, 207, .inl (fun _ => 0))), (q3, .inl ((xC G).1, 207, .inl (fun _ => 0))), (q4, .inl ((xC G).1, 414, .inl (fun _ => 0))), (q5, .inl ((xC G).2.2.2, 2, .inl (fun _ => 0))), (q6, .inl ((xC G).1, 48, .inl (fun _ => 0))), (q7, .inl ((xC G).1, 80, .inl (fun _ => 0))), (q8, .inl ((xC G).1, 336, .inl (fun _ => 0)))]) rfl ?_
    refine k_toX (fun i => if i < 81 then u i else if i < 90 then ([h0, q1, q2, q3, q4, q5, q6, q7, q8]).getD (i - 81) 0 else u i) u M01 hG hEn (fun i hi => by rw [if_neg (by omega), if_neg (by omega)]) (Nat.le_of_ble_eq_true rfl) (Nat.le_of_ble_eq_true rfl) (fun D H hP => kBl_to (fun i hi => by rw [if_pos hi]) rfl hP) (fun A hD => kBl_toD (fun i hi => by rw [if_pos hi]) rfl hD) (fun hX => ?_)
    have hxa : xa (xwith G (fun i => if i < 81 then u i else if i < 90 then ([h0, q1, q2, q3, q4, q5, q6, q7, q8]).getD (i - 81) 0 else u i) 8 1694) 81 = h0 := by rw [hGe]; rfl
    rw [← hxa]
    refine x_aload_n hX dX9_init_77 rfl rfl ?_
    refine x_cVV0 hX dX9_init_78 (fun ha => c_X9_begins ha h) gX9_init_X9_begins rfl ⟨rfl, rfl⟩ hy_X9_begins ⟨Nat.le_of_ble_eq_true rfl, Nat.le_of_ble_eq_true rfl⟩ (kd_lt (rfl : kd 81 = 9) (by decide)) (fun _ => xc_9 rfl) rfl (Nat.le_of_ble_eq_true rfl) (fun M1 h => ?_)
    refine x_aload_n hX dX9_init_81 rfl rfl ?_
    refine x_cVV0 hX dX9_init_82 (fun ha => c_X9_adopts ha h) gX9_init_X9_adopts rfl ⟨rfl, rfl⟩ hy_X9_adopts ⟨Nat.le_of_ble_eq_true rfl, Nat.le_of_ble_eq_true rfl⟩ (kd_lt (rfl : kd 81 = 9) (by decide)) (fun _ => xc_9 rfl) rfl (Nat.le_of_ble_eq_true rfl) (fun M2 h => ?_)
    subst hGe
    obtain ⟨hx, hb, hml, hown, hts, hK, hI, hAi, hAn, hR, hc1, hc2, hNw, hH0⟩ := hX
    intro H locs ls hP hS hl
    refine W.vret hx hb B.returns (fun t ht hW => ⟨⟨((fun i => if i < 81 then u i else if i < 90 then ([h0, q1, q2, q3, q4, q5, q6, q7, q8]).getD (i - 81) 0 else u i), M2), rfl, h, by rw [ht]; exact hP, xWd_D hI hAi, fun i hi => (if_neg (by omega)).trans (if_neg (by omega)), rfl, rfl⟩, hS.F ht⟩) hS.2.2 dX9_init_85 B.notSynchronized
  subst hGe
  rw [hAe] at *
  exact main s.heap [] _ hP hD va_S.rf hlx
