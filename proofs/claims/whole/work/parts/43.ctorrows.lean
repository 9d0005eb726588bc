/-! constructors: a world that grows; its cells as a list -/
theorem va_AOA.moved {ty : FieldType} {u U : State} (hvm : u.vm.Alike U.vm) (h : va_AOA ty u) : va_AOA ty U := by
  have e := arrayOver_alikeB (s := u) (U := U) (args := #[]) (first := u) (o := none) (idx := []) (args' := #[]) (first' := U) (o' := none) (idx' := []) (t := ty) hvm
  first
  | exact e h
  | exact e.mp h
  | exact e ▸ h
theorem va_nd_range (n : Nat) : va_nd (List.range n) = true := by
  have key : ∀ l : List Nat, l.Nodup → va_nd l = true := by
    intro l
    induction l with
    | nil => exact fun _ => rfl
    | cons a l ih =>
      intro h
      rw [List.nodup_cons] at h
      unfold va_nd
      rw [ih h.2, Bool.and_true, decide_eq_true_eq]
      exact h.1
  exact key _ List.nodup_range
def kNw (U : State) : Prop := va_Nw (.methodLinkNest RX8 9 yX5_init "QuietYards") U ∧ va_Nw (.methodLinkNest RX5 11 yX7_init "QuietYards") U ∧ va_Nw (.methodLinkNest RX8 18 yX6_init "QuietYards") U ∧ va_Nw (.methodLinkNest RX8 25 yX4_init "QuietYards") U ∧ va_Nw (.methodLinkNest RX8 32 yX1_init "QuietYards") U ∧ va_Nw (.methodLinkNest RX8 45 yX2_init "QuietYards") U ∧ va_Nw (.methodLinkNest RX2 20 yX0_init "QuietYards") U ∧ va_Nw (.methodLinkNest RX8 53 yX3_init "QuietYards") U ∧ va_Nw (.methodLinkNest RX3 9 yX0_init "QuietYards") U ∧ va_Nw (.methodLinkNest RX3 18 yX1_init "QuietYards") U ∧ va_AO "QuietYards$Image" U ∧ va_AOA .int U
theorem kNw.warm {s U : State} (hW : s.WarmedH U.vm) (h : kNw s) : kNw U := by
  obtain ⟨h1, h2, h3, h4, h5, h6, h7, h8, h9, h10, h11, h12⟩ := h
  exact ⟨va_Nw.warmM hW h1, va_Nw.warmM hW h2, va_Nw.warmM hW h3, va_Nw.warmM hW h4, va_Nw.warmM hW h5, va_Nw.warmM hW h6, va_Nw.warmM hW h7, va_Nw.warmM hW h8, va_Nw.warmM hW h9, va_Nw.warmM hW h10, va_AO.moved hW.alike h11, va_AOA.moved hW.alike h12⟩
theorem kNw.blind {U : State} {g : JFrame} {mk : MethodId} {b : Array Value} (h : kNw U) : kNw (U.calling g mk b) := by
  obtain ⟨h1, h2, h3, h4, h5, h6, h7, h8, h9, h10, h11, h12⟩ := h
  exact ⟨va_Nw.same (u := U) rfl rfl h1, va_Nw.same (u := U) rfl rfl h2, va_Nw.same (u := U) rfl rfl h3, va_Nw.same (u := U) rfl rfl h4, va_Nw.same (u := U) rfl rfl h5, va_Nw.same (u := U) rfl rfl h6, va_Nw.same (u := U) rfl rfl h7, va_Nw.same (u := U) rfl rfl h8, va_Nw.same (u := U) rfl rfl h9, va_Nw.same (u := U) rfl rfl h10, va_AO.moved (u := U) (U := U.calling g mk b) (Vm.Alike.refl U.vm) h11, va_AOA.moved (u := U) (U := U.calling g mk b) (Vm.Alike.refl U.vm) h12⟩
def kW (G : xG) (w : va_W) (nc ns : Nat) (lv : List (Option Value)) (st : List Value) (pc : Nat) : Prop := match G with
  | (p, l, e, R, s, m, args, below, meth, c, nL, A, H0, Q, D, a, cs, kc, ks) => ∀ (H : Heap) (locs : List Loc) (ls : Array Slot), va_P D vwCl w H → va_D A w → va_S A H0 H locs → xl ls nL lv → W p l e R s m args below meth c H locs nc ns Q (F0 m pc ls st)
def kOk (G : xG) (cc : ByteArray) (own : String) (ws : List Cond) (rm : Room) : Prop := match G with
  | (p, l, e, R, s, m, args, below, meth, c, nL, A, H0, Q, D, a, cs, kc, ks) => p.tables.exec = Jvm.exec ∧ c.code = cc ∧ c.maxLocals = nL ∧ s.vm.findClass own = some m.cls ∧ (∀ w ∈ ws, w.before args s = true) ∧ va_K D vwCl (xtys cs) s ∧ (∀ q, H0.size ≤ q → A q) ∧ R = rm ∧ kNw s ∧ (own ≠ "QuietYardsLaw" → meth.name = "<init>")
def xC (G : xG) : xCs := match G with | (p, l, e, R, s, m, args, below, meth, c, nL, A, H0, Q, D, a, cs, kc, ks) => cs
def xD (G : xG) : va_G := match G with | (p, l, e, R, s, m, args, below, meth, c, nL, A, H0, Q, D, a, cs, kc, ks) => D
/-- a constructor's contract: from the fresh object alone to the world W1 u, u the addresses -/
abbrev kMet (l : Launch) (y : MethodName) (ws : List Cond) (rm : Room) (D : va_G) (cs : xCs) (sz h0 ci : Nat) (fs : List Value) (W1 : (Nat → Nat) → va_W) (mc ms : Nat) : Prop := Met l y ws rm (va_Pc [.ref h0] (fun U => U.heap.size = sz ∧ va_P D vwCl [(h0, .inr (ci, fs))] U.heap ∧ va_K D vwCl (xtys cs) U ∧ va_D (fun _ => True) [(h0, .inr (ci, fs))] ∧ kNw U)) (va_Qv (fun _ : Nat → Nat => True) (fun u t => va_P D vwCl (W1 u) t.heap ∧ va_D (va_A [(h0, .inr (ci, fs))] sz) (W1 u) ∧ u 0 = h0) (va_A [(h0, .inr (ci, fs))] sz)) mc ms (va_A [(h0, .inr (ci, fs))] sz)
def kRet (G : xG) (h0 : Nat) (W1 : (Nat → Nat) → va_W) (mc ms : Nat) : Prop := match G with
  | (p, l, e, R, s, m, args, below, meth, c, nL, A, H0, Q, D, a, cs, kc, ks) => meth.sig.returnType = none ∧ meth.locks = false ∧ H0 = s.heap ∧ Q = MQ below (va_Qv (fun _ : Nat → Nat => True) (fun u t => va_P D vwCl (W1 u) t.heap ∧ va_D A (W1 u) ∧ u 0 = h0) A) args s mc ms A
theorem va_P_nil {D : va_G} {cl : List vw_C} {H : Heap} : va_P D cl [] H := fun k q h => by simp at h
theorem va_P_cons {D : va_G} {cl : List vw_C} {H : Heap} {x : Nat × va_E} {t : va_W} (h1 : va_at D cl x H) (h2 : va_P D cl t H) : va_P D cl (x :: t) H := by
  intro k q hk
  cases k with
  | zero => cases hk; exact h1
  | succ k => exact h2 k q (by simpa using hk)
/-- of a row of references the places that it has alone count -/
theorem va_atq {D : va_G} {cl : List vw_C} {H : Heap} {q n : Nat} {cA : ClassId} {f g : Nat → Option Nat} (h : va_at D cl (q, .inl (cA, n, .inr (.inr (.inr (.inr f))))) H) (hfg : ∀ j, j < n → f j = g j) : va_at D cl (q, .inl (cA, n, .inr (.inr (.inr (.inr g))))) H := by
  have e : vp_cell cA (n, .inr (.inr (.inr (.inr f)))) = vp_cell cA (n, .inr (.inr (.inr (.inr g)))) := by
    rw [vp_cell_q, vp_cell_q]
    unfold arrV
    congr 1
    apply Array.ext
    · simp
    · intro i h1 h2
      have hi : i < n := by simpa using h1
      simp [hfg i hi]
  exact h.trans (congrArg some e)
section KR
variable {G : xG} {w : va_W} {nc ns : Nat} {lv : List (Option Value)} {rest : List Value} {pc : Nat} {cc : ByteArray} {own : String} {ws : List Cond} {rm : Room}
theorem k_aload_n {j : Fin 4} {i : Nat} {x : Nat} (hG : kOk G cc own ws rm) (hd : decode cc pc = .ok (.aload_n j, 1)) (hi : (j : Nat) = i) (hl0 : lv[i]? = some (some (.ref x))) (k : kW G w nc ns lv (.ref x :: rest) (pc + 1)) : kW G w nc ns lv rest pc := by
  obtain ⟨p, l, e, R, s, m, args, below, meth, c, nL, A, H0, Q, D, a, cs, kc, ks⟩ := G
  obtain ⟨hx, hb, hml, hown, hts, hK, hA, hR, hNw, hin⟩ := hG
  intro H locs ls hP hD hS hl
  exact lv_aload_n hx hb hd hi (hl.2.2.2 _ _ hl0) (k H locs ls hP hD hS hl)
theorem k_iload_n {j : Fin 4} {i : Nat} {x : Int32} (hG : kOk G cc own ws rm) (hd : decode cc pc = .ok (.iload_n j, 1)) (hi : (j : Nat) = i) (hl0 : lv[i]? = some (some (.int x))) (k : kW G w nc ns lv (.int x :: rest) (pc + 1)) : kW G w nc ns lv rest pc := by
  obtain ⟨p, l, e, R, s, m, args, below, meth, c, nL, A, H0, Q, D, a, cs, kc, ks⟩ := G
  obtain ⟨hx, hb, hml, hown, hts, hK, hA, hR, hNw, hin⟩ := hG
  intro H locs ls hP hD hS hl
  exact lv_iload_n hx hb hd hi (hl.2.2.2 _ _ hl0) (k H locs ls hP hD hS hl)
theorem k_iconst {n : Int} {v : Int32} (hG : kOk G cc own ws rm) (hd : decode cc pc = .ok (.iconst n, 1)) (hv : Int32.ofInt n = v) (k : kW G w nc ns lv (.int v :: rest) (pc + 1)) : kW G w nc ns lv rest pc := by
  obtain ⟨p, l, e, R, s, m, args, below, meth, c, nL, A, H0, Q, D, a, cs, kc, ks⟩ := G
  obtain ⟨hx, hb, hml, hown, hts, hK, hA, hR, hNw, hin⟩ := hG
  intro H locs ls hP hD hS hl
  exact lv_iconst hx hb hd hv (k H locs ls hP hD hS hl)
theorem k_bipush {n : Int} {v : Int32} (hG : kOk G cc own ws rm) (hd : decode cc pc = .ok (.bipush n, 2)) (hv : (Int8.ofInt n).toInt32 = v) (k : kW G w nc ns lv (.int v :: rest) (pc + 2)) : kW G w nc ns lv rest pc := by
  obtain ⟨p, l, e, R, s, m, args, below, meth, c, nL, A, H0, Q, D, a, cs, kc, ks⟩ := G
  obtain ⟨hx, hb, hml, hown, hts, hK, hA, hR, hNw, hin⟩ := hG
  intro H locs ls hP hD hS hl
  exact lv_bipush hx hb hd hv (k H locs ls hP hD hS hl)
theorem k_sipush {n : Int} {v : Int32} (hG : kOk G cc own ws rm) (hd : decode cc pc = .ok (.sipush n, 3)) (hv : (Int16.ofInt n).toInt32 = v) (k : kW G w nc ns lv (.int v :: rest) (pc + 3)) : kW G w nc ns lv rest pc := by
  obtain ⟨p, l, e, R, s, m, args, below, meth, c, nL, A, H0, Q, D, a, cs, kc, ks⟩ := G
  obtain ⟨hx, hb, hml, hown, hts, hK, hA, hR, hNw, hin⟩ := hG
  intro H locs ls hP hD hS hl
  exact lv_sipush hx hb hd hv (k H locs ls hP hD hS hl)
theorem k_dup {v : Value} (hG : kOk G cc own ws rm) (hd : decode cc pc = .ok (.dup, 1)) (hv : v.category = 1) (k : kW G w nc ns lv (v :: v :: rest) (pc + 1)) : kW G w nc ns lv (v :: rest) pc := by
  obtain ⟨p, l, e, R, s, m, args, below, meth, c, nL, A, H0, Q, D, a, cs, kc, ks⟩ := G
  obtain ⟨hx, hb, hml, hown, hts, hK, hA, hR, hNw, hin⟩ := hG
  intro H locs ls hP hD hS hl
  exact lv_dup hx hb hd hv (k H locs ls hP hD hS hl)
theorem k_istore_n {j : Fin 4} {i : Nat} {x : Int32} (hG : kOk G cc own ws rm) (hd : decode cc pc = .ok (.istore_n j, 1)) (hi : (j : Nat) = i) (hn : i < lv.length) (ho : xok1 lv i = true) (k : kW G w nc ns (lv.set i (some (.int x))) rest (pc + 1)) : kW G w nc ns lv (.int x :: rest) pc := by
  obtain ⟨p, l, e, R, s, m, args, below, meth, c, nL, A, H0, Q, D, a, cs, kc, ks⟩ := G
  obtain ⟨hx, hb, hml, hown, hts, hK, hA, hR, hNw, hin⟩ := hG
  intro H locs ls hP hD hS hl
  exact lv_istore_n hx hb hd hi (xl_to hl) (by rw [← hl.2.2.1]; exact hn) rfl (fun ls2 h2 => k H locs ls2 hP hD hS (xl_set1 hn hl.2.2.1 ho h2))
theorem k_iinc {i : Nat} {n : Int} {x v : Int32} (hG : kOk G cc own ws rm) (hd : decode cc pc = .ok (.iinc i n, 3)) (hl0 : lv[i]? = some (some (.int x))) (hv : x + Int32.ofInt n = v) (hn : i < lv.length) (ho : xok1 lv i = true) (k : kW G w nc ns (lv.set i (some (.int v))) rest (pc + 3)) : kW G w nc ns lv rest pc := by
  obtain ⟨p, l, e, R, s, m, args, below, meth, c, nL, A, H0, Q, D, a, cs, kc, ks⟩ := G
  obtain ⟨hx, hb, hml, hown, hts, hK, hA, hR, hNw, hin⟩ := hG
  intro H locs ls hP hD hS hl
  exact lv_iinc (k := 0) (lv := (i, .int x) :: xps lv 0) (lv' := _) hx hb hd (xl_more hl hl0) rfl hv (by rw [← hl.2.2.1]; exact hn) rfl (fun ls2 h2 => k H locs ls2 hP hD hS (xl_set1 hn hl.2.2.1 ho (xl_less h2)))
theorem k_goto {off : Int} {tgt : Nat} (hG : kOk G cc own ws rm) (hd : decode cc pc = .ok (.goto off, 3)) (ht : (pc : Int) + off = (tgt : Int)) (k : kW G w nc ns lv rest tgt) : kW G w nc ns lv rest pc := by
  obtain ⟨p, l, e, R, s, m, args, below, meth, c, nL, A, H0, Q, D, a, cs, kc, ks⟩ := G
  obtain ⟨hx, hb, hml, hown, hts, hK, hA, hR, hNw, hin⟩ := hG
  intro H locs ls hP hD hS hl
  exact lv_goto hx hb hd ht (k H locs ls hP hD hS hl)
theorem k_icmp_ge {x y : Int32} {off : Int} {tgt : Nat} (hG : kOk G cc own ws rm) (hd : decode cc pc = .ok (.if_icmp .ge off, 3)) (ht : (pc : Int) + off = (tgt : Int)) (kt : y ≤ x → kW G w nc ns lv rest tgt) (kf : ¬ y ≤ x → kW G w nc ns lv rest (pc + 3)) : kW G w nc ns lv (.int y :: .int x :: rest) pc := by
  obtain ⟨p, l, e, R, s, m, args, below, meth, c, nL, A, H0, Q, D, a, cs, kc, ks⟩ := G
  obtain ⟨hx, hb, hml, hown, hts, hK, hA, hR, hNw, hin⟩ := hG
  intro H locs ls hP hD hS hl
  exact lv_icmp_ge hx hb hd ht (fun q => kt q H locs ls hP hD hS hl) (fun q => kf q H locs ls hP hD hS hl)
theorem k_objInit {q idx : Nat} (hG : kOk G cc own ws rm) (hd : decode cc pc = .ok (.invokespecial idx, 3)) (h1 : Cond.methodLink own idx objectInit ∈ ws) (h2 : Cond.instanceMethod objectInit ∈ ws) (h3 : Cond.code objectInit ⟨#[0xb1]⟩ 1 none ∈ ws) (hf : 1 ≤ rm.frames) (hlc : (rest.map fun v => v.category).sum + 12 ≤ rm.locals) (k : kW G w nc ns lv rest (pc + 3)) : kW G w nc ns lv (.ref q :: rest) pc := by
  obtain ⟨p, l, e, R, s, m, args, below, meth, c, nL, A, H0, Q, D, a, cs, kc, ks⟩ := G
  obtain ⟨hx, hb, hml, hown, hts, hK, hA, hR, hNw, hin⟩ := hG
  intro H locs ls hP hD hS hl
  subst hR
  refine W.objInit hx hb hown (hts _ h1) (hts _ h2) (hts _ h3) rfl (by rw [hml]; exact hl.1) rfl hd hf (by show 2 * 0 + _ + 12 ≤ _; omega) ?_
  exact W.eq (g2 := F0 m (pc + 3) ls rest) rfl (k H locs ls hP hD hS hl)
theorem k_newi {n : Int32} {N : Nat} (hG : kOk G cc own ws rm) (hd : decode cc pc = .ok (.newarray .int, 2)) (harr : Cond.arrayClass .int ∈ ws) (hn : ¬ n < 0) (hN : n.toNatClampNeg = N) (hby : N * 4 ≤ 536870912) (hcells : nc + 1 ≤ rm.cells) (hslots : ns + N ≤ rm.slots) (k : ∀ q, kW G (w ++ [(q, .inl ((xC G).1, N, .inl (fun _ => 0)))]) (nc + 1) (ns + N) lv (.ref q :: rest) (pc + 2)) : kW G w nc ns lv (.int n :: rest) pc := by
  obtain ⟨p, l, e, R, s, m, args, below, meth, c, nL, A, H0, Q, D, a, cs, kc, ks⟩ := G
  obtain ⟨hx, hb, hml, hown, hts, hK, hA, hR, hNw, hin⟩ := hG
  intro H locs ls hP hD hS hl
  subst hR
  refine va_newa (atype := .int) (ty := .int) (a0 := (N, .inl (fun _ => 0))) hx hb (hts _ harr) rfl hK hP hD hS hA (fun cA => by rw [vp_cell_i]; rfl) hn hN hby hcells hslots hd (fun q cA H1 hK1 hP1 hD1 hS1 => ?_)
  have e1 : va_RA s cA .int := (hK1.2 (xtys cs).length (cA, .int) (by simp)).2
  have e2 : va_RA s cs.1 .int := (hK.2 0 (cs.1, .int) rfl).2
  have e : cA = cs.1 := Option.some.inj ((show s.vm.findClass _ = some cA from e1).symm.trans e2)
  subst e
  exact k q H1 locs ls hP1 hD1 hS1 hl
theorem k_newz {n : Int32} {N : Nat} (hG : kOk G cc own ws rm) (hd : decode cc pc = .ok (.newarray .boolean, 2)) (harr : Cond.arrayClass .boolean ∈ ws) (hn : ¬ n < 0) (hN : n.toNatClampNeg = N) (hby : N * 1 ≤ 536870912) (hcells : nc + 1 ≤ rm.cells) (hslots : ns + N ≤ rm.slots) (k : ∀ q, kW G (w ++ [(q, .inl ((xC G).2.2.2, N, .inl (fun _ => 0)))]) (nc + 1) (ns + N) lv (.ref q :: rest) (pc + 2)) : kW G w nc ns lv (.int n :: rest) pc := by
  obtain ⟨p, l, e, R, s, m, args, below, meth, c, nL, A, H0, Q, D, a, cs, kc, ks⟩ := G
  obtain ⟨hx, hb, hml, hown, hts, hK, hA, hR, hNw, hin⟩ := hG
  intro H locs ls hP hD hS hl
  subst hR
  refine va_newa (atype := .boolean) (ty := .boolean) (a0 := (N, .inl (fun _ => 0))) hx hb (hts _ harr) rfl hK hP hD hS hA (fun cA => by rw [vp_cell_i]; rfl) hn hN hby hcells hslots hd (fun q cA H1 hK1 hP1 hD1 hS1 => ?_)
  have e1 : va_RA s cA .boolean := (hK1.2 (xtys cs).length (cA, .boolean) (by simp)).2
  have e2 : va_RA s cs.2.2.2 .boolean := (hK.2 3 (cs.2.2.2, .boolean) rfl).2
  have e : cA = cs.2.2.2 := Option.some.inj ((show s.vm.findClass _ = some cA from e1).symm.trans e2)
  subst e
  exact k q H1 locs ls hP1 hD1 hS1 hl
theorem k_anew {n : Int32} {N index : Nat} (hG : kOk G cc own ws rm) (hd : decode cc pc = .ok (.anewarray index, 3)) (hlink : Cond.classLink own index "QuietYards$Image" ∈ ws) (hn : ¬ n < 0) (hN : n.toNatClampNeg = N) (hby : N * 4 ≤ 536870912) (hcells : nc + 1 ≤ rm.cells) (hslots : ns + N ≤ rm.slots) (k : ∀ q, kW G (w ++ [(q, .inl ((xC G).2.2.1, N, .inr (.inr (.inr (.inr (fun _ => none))))))]) (nc + 1) (ns + N) lv (.ref q :: rest) (pc + 3)) : kW G w nc ns lv (.int n :: rest) pc := by
  obtain ⟨p, l, e, R, s, m, args, below, meth, c, nL, A, H0, Q, D, a, cs, kc, ks⟩ := G
  obtain ⟨hx, hb, hml, hown, hts, hK, hA, hR, hNw, hin⟩ := hG
  intro H locs ls hP hD hS hl
  subst hR
  refine va_newq hx hb hown (hts _ hlink) hNw.2.2.2.2.2.2.2.2.2.2.1 hK hP hD hS hA hn hN hby hcells hslots hd (fun q cA H1 hK1 hP1 hD1 hS1 => ?_)
  have e1 : va_RA s cA (.object "QuietYards$Image") := (hK1.2 (xtys cs).length (cA, .object "QuietYards$Image") (by simp)).2
  have e2 : va_RA s cs.2.2.1 (.object "QuietYards$Image") := (hK.2 2 (cs.2.2.1, .object "QuietYards$Image") rfl).2
  obtain ⟨_, _, _, _, _, e3⟩ := e1
  obtain ⟨_, _, _, _, _, e4⟩ := e2
  have e : cA = cs.2.2.1 := Option.some.inj (e3.symm.trans e4)
  subst e
  exact k q H1 locs ls hP1 hD1 hS1 hl
theorem k_multi {n1 n2 : Int32} {N K index : Nat} (hG : kOk G cc own ws rm) (hd : decode cc pc = .ok (.multianewarray index 2, 4)) (hlink : Cond.classLink own index "[[I" ∈ ws) (harr : Cond.arrayClass .int ∈ ws) (hn1 : ¬ n1 < 0) (hn2 : ¬ n2 < 0) (hN : n1.toNatClampNeg = N) (hM : n2.toNatClampNeg = K) (hb1 : N * 4 ≤ 536870912) (hb2 : K * 4 ≤ 536870912) (hb3 : K ≤ 536870912) (hcells : nc + (1 + N) ≤ rm.cells) (hslots : ns + (N + N * K) ≤ rm.slots) (k : ∀ (q : Nat) (r : Nat → Nat), kW G ((w ++ [(q, .inl ((xC G).2.1, N, .inr (.inr (.inr (.inr (fun i => if i < N then some (r i) else none))))))]) ++ (List.range N).map (fun i => (r i, .inl ((xC G).1, K, .inl (fun _ => 0))))) (nc + 1 + N) (ns + N + N * K) lv (.ref q :: rest) (pc + 4)) : kW G w nc ns lv (.int n2 :: .int n1 :: rest) pc := by
  obtain ⟨p, l, e, R, s, m, args, below, meth, c, nL, A, H0, Q, D, a, cs, kc, ks⟩ := G
  obtain ⟨hx, hb, hml, hown, hts, hK, hA, hR, hNw, hin⟩ := hG
  intro H locs ls hP hD hS hl
  subst hR
  have e2 : s.vm.findClass ("[" ++ (FieldType.int).toString) = some cs.1 := (hK.2 0 (cs.1, .int) rfl).2
  refine va_mna (X := w) (L := []) (f := fun _ => .inl (cs.1, 0, .inl (fun _ => 0))) (ty := .int) (cy := cs.1) (z := (K, .inl (fun _ => 0))) hx hb hown (hts _ hlink) hNw.2.2.2.2.2.2.2.2.2.2.2 (hts _ harr) e2 hK (by rw [show w ++ va_pl [] _ = w from List.append_nil w]; exact hP) (by rw [show w ++ va_pl [] _ = w from List.append_nil w]; exact hD) hS hA hn1 hn2 hN hM hb1 hb2 hb3 rfl rfl hcells hslots (fun c => by rw [vp_cell_i]; show ({ cls := c, slots := Array.replicate K (.int 0), vm := .none } : Cell) = _; rw [arrV_new]) hd (fun q r cA H1 hi hni hK1 hP1 hD1 hS1 => ?_)
  have e3 : va_RA s cA (.array .int) := (hK1.2 (xtys cs).length (cA, .array .int) (by simp)).2
  have e4 : va_RA s cs.2.1 (.array .int) := (hK.2 1 (cs.2.1, .array .int) rfl).2
  have e : cA = cs.2.1 := Option.some.inj ((show s.vm.findClass _ = some cA from e3).symm.trans e4)
  subst e
  have el : va_pl ([] ++ (List.range N).map r) (vr_up (fun _ => .inl (cs.1, 0, .inl (fun _ => 0))) ((List.range N).map r) (.inl (cs.1, K, .inl (fun _ => 0)))) = (List.range N).map (fun i => (r i, .inl (cs.1, K, .inl (fun _ => 0)))) := by
    unfold va_pl
    rw [List.nil_append, List.map_map]
    apply List.map_congr_left
    intro i hi
    show (r i, vr_up _ _ _ (r i)) = _
    rw [vr_up_in (List.mem_map.mpr ⟨i, hi, rfl⟩)]
  rw [el] at hP1 hD1
  exact k q r H1 locs ls hP1 hD1 hS1 hl
theorem k_new {C : String} {T : u_T} {N ci index : Nat} {fs : List Value} (hG : kOk G cc own ws rm) (hd : decode cc pc = .ok (.new index, 3)) (hin0 : ∀ v ∈ u_ws C T N, v ∈ ws) (ty : Nat → FieldType) (hty : ∀ k, k < N → parseFieldDescriptor (T k).2.2.1 = some (ty k)) (h1 : Cond.classLink own index C ∈ ws) (h2 : Cond.instantiable C N ∈ ws) (h3 : Cond.initialized C ∈ ws) (hc : vwCl[ci]? = some (C, T, N)) (hfs : ∀ j, j < N → defaultValue (ty j) = vp_V fs j) (hcells : nc + 1 ≤ rm.cells) (hslots : ns + N ≤ rm.slots) (k : ∀ q, kW G (w ++ [(q, .inr (ci, fs))]) (nc + 1) (ns + N) lv (.ref q :: rest) (pc + 3)) : kW G w nc ns lv rest pc := by
  obtain ⟨p, l, e, R, s, m, args, below, meth, c, nL, A, H0, Q, D, a, cs, kc, ks⟩ := G
  obtain ⟨hx, hb, hml, hown, hts, hK, hA, hR, hNw, hin⟩ := hG
  intro H locs ls hP hD hS hl
  subst hR
  exact va_new hx hb hts hin0 ty hty hown (hts _ h1) (hts _ h2) (hts _ h3) hK hP hD hS hA hc hfs hcells hslots hd (fun q H1 hP1 hD1 hS1 => k q H1 locs ls hP1 hD1 hS1 hl)
theorem k_putF {C : String} {T : u_T} {N ci index q0 a0 : Nat} {fs : List Value} {v : Value} (hG : kOk G cc own ws rm) (hd : decode cc pc = .ok (.putfield index, 3)) (hin0 : ∀ v ∈ u_ws C T N, v ∈ ws) (ty0 : Nat → FieldType) (hty : ∀ k, k < N → parseFieldDescriptor (T k).2.2.1 = some (ty0 k)) (hnm : ∀ a, a < N → ∀ b, b < N → a ≠ b → (T a).2.1 ≠ (T b).2.1) (he : w[q0]? = some (a0, .inr (ci, fs))) (hc : vwCl[ci]? = some (C, T, N)) (j : Nat) (hj : j < N) (hlink : Cond.fieldLink own index (T j).1 (T j).2.1 (T j).2.2.1 ∈ ws) (hfin : (T j).2.2.2 = true) (hdecl : (T j).1 = own) (hnl : own ≠ "QuietYardsLaw") (hn : narrow (ty0 j) v = v) (hfit : fits (ty0 j) v = true) (hl0 : j < fs.length) (k : kW G (w.set q0 (a0, .inr (ci, fs.set j v))) nc ns lv rest (pc + 3)) : kW G w nc ns lv (v :: .ref a0 :: rest) pc := by
  obtain ⟨p, l, e, R, s, m, args, below, meth, c, nL, A, H0, Q, D, a, cs, kc, ks⟩ := G
  obtain ⟨hx, hb, hml, hown, hts, hK, hA, hR, hNw, hin⟩ := hG
  intro H locs ls hP hD hS hl
  exact va_putF hx hb hts hin0 ty0 hty hnm hown hK hP hD hS q0 he hc j hj (hts _ hlink) (fun _ h => h) hfin (hin hnl) hdecl (hty j hj) hn hfit hl0 hd (fun H1 locs1 hP1 hD1 hS1 => k H1 locs1 ls hP1 hD1 hS1 hl)
theorem k_put {C : String} {T : u_T} {N ci index q0 a0 : Nat} {fs : List Value} {v : Value} (hG : kOk G cc own ws rm) (hd : decode cc pc = .ok (.putfield index, 3)) (hin0 : ∀ v ∈ u_ws C T N, v ∈ ws) (ty0 : Nat → FieldType) (hty : ∀ k, k < N → parseFieldDescriptor (T k).2.2.1 = some (ty0 k)) (hnm : ∀ a, a < N → ∀ b, b < N → a ≠ b → (T a).2.1 ≠ (T b).2.1) (he : w[q0]? = some (a0, .inr (ci, fs))) (hc : vwCl[ci]? = some (C, T, N)) (j : Nat) (hj : j < N) (hlink : Cond.fieldLink own index (T j).1 (T j).2.1 (T j).2.2.1 ∈ ws) (hfin : (T j).2.2.2 = false) (hn : narrow (ty0 j) v = v) (hfit : fits (ty0 j) v = true) (hl0 : j < fs.length) (k : kW G (w.set q0 (a0, .inr (ci, fs.set j v))) nc ns lv rest (pc + 3)) : kW G w nc ns lv (v :: .ref a0 :: rest) pc := by
  obtain ⟨p, l, e, R, s, m, args, below, meth, c, nL, A, H0, Q, D, a, cs, kc, ks⟩ := G
  obtain ⟨hx, hb, hml, hown, hts, hK, hA, hR, hNw, hin⟩ := hG
  intro H locs ls hP hD hS hl
  exact va_put hx hb hts hin0 ty0 hty hnm hown hK hP hD hS q0 he hc j hj (hts _ hlink) (fun _ h => h) hfin (hty j hj) hn hfit hl0 hd (fun H1 locs1 hP1 hD1 hS1 => k H1 locs1 ls hP1 hD1 hS1 hl)
theorem k_get {C : String} {T : u_T} {N ci index q0 a0 : Nat} {fs : List Value} {v : Value} (hG : kOk G cc own ws rm) (hd : decode cc pc = .ok (.getfield index, 3)) (hin0 : ∀ v ∈ u_ws C T N, v ∈ ws) (he : w[q0]? = some (a0, .inr (ci, fs))) (hc : vwCl[ci]? = some (C, T, N)) (j : Nat) (hj : j < N) (hlink : Cond.fieldLink own index (T j).1 (T j).2.1 (T j).2.2.1 ∈ ws) (hv : fs[j]? = some v) (k : kW G w nc ns lv (v :: rest) (pc + 3)) : kW G w nc ns lv (.ref a0 :: rest) pc := by
  obtain ⟨p, l, e, R, s, m, args, below, meth, c, nL, A, H0, Q, D, a, cs, kc, ks⟩ := G
  obtain ⟨hx, hb, hml, hown, hts, hK, hA, hR, hNw, hin⟩ := hG
  intro H locs ls hP hD hS hl
  exact va_get hx hb hts hin0 hown hK hP q0 he hc j hj (hts _ hlink) (fun _ h => h) hv hd (k H locs ls hP hD hS hl)
theorem k_aastore {q0 qk ci n a0 v : Nat} {vs : List Value} {f : Nat → Option Nat} {i : Int32} {T : u_T} {N : Nat} (hG : kOk G cc own ws rm) (hd : decode cc pc = .ok (.aastore, 1)) (ha : w[q0]? = some (a0, .inl ((xC G).2.2.1, n, .inr (.inr (.inr (.inr f)))))) (hv : w[qk]? = some (v, .inr (ci, vs))) (hc : vwCl[ci]? = some ("QuietYards$Image", T, N)) (hin1 : vp_in i n) (k : kW G (w.set q0 (a0, .inl ((xC G).2.2.1, n, .inr (.inr (.inr (.inr (va_up f i.toNatClampNeg (some v)))))))) nc ns lv rest (pc + 1)) : kW G w nc ns lv (.ref v :: .int i :: .ref a0 :: rest) pc := by
  obtain ⟨p, l, e, R, s, m, args, below, meth, c, nL, A, H0, Q, D, a, cs, kc, ks⟩ := G
  obtain ⟨hx, hb, hml, hown, hts, hK, hA, hR, hNw, hin⟩ := hG
  intro H locs ls hP hD hS hl
  exact va_astq (r := ("QuietYards$Image", T, N)) hx hb hK hP hD hS q0 2 qk ci ha rfl hv hc hin1 hd (fun H1 locs1 hP1 hD1 hS1 => k H1 locs1 ls hP1 hD1 hS1 hl)
theorem k_ret {h0 : Nat} {W1 : (Nat → Nat) → va_W} (u : Nat → Nat) (is : List Nat) (hG : kOk G cc own ws rm) (hQ : kRet G h0 W1 nc ns) (hd : decode cc pc = .ok (.return_, 1)) (hu : u 0 = h0) (hP1 : ∀ H, va_P (xD G) vwCl w H → va_P (xD G) vwCl (W1 u) H) (hD1 : ∀ A, va_D A w → va_D A (W1 u)) : kW G w nc ns lv [] pc := by
  obtain ⟨p, l, e, R, s, m, args, below, meth, c, nL, A, H0, Q, D, a, cs, kc, ks⟩ := G
  obtain ⟨hx, hb, hml, hown, hts, hK, hA, hR, hNw, hin⟩ := hG
  intro H locs ls hP hD hS hl
  obtain ⟨hr, hlocks, rfl, rfl⟩ := hQ
  exact W.vret hx hb hr (fun t ht hW => ⟨⟨u, rfl, trivial, by rw [ht]; exact hP1 H hP, hD1 A hD, hu⟩, hS.F ht⟩) hS.2.2 hd hlocks
theorem k_init {y : MethodName} {bytes : ByteArray} {maxL index q ci mc ms : Nat} {wsY ws' : List Cond} {rmY : Room} {fs : List Value} {W1 : (Nat → Nat) → va_W} (hG : kOk G cc own ws rm) (hd : decode cc pc = .ok (.invokespecial index, 3)) (hNl : ∀ s, kNw s → va_Nw (.methodLinkNest own index y "QuietYards") s) (hM : ∀ sz, kMet (xL G) y wsY rmY (xD G) (xC G) sz q ci fs W1 mc ms) (hg : GoodIn ws wsY) (hw : wsY = Cond.code y bytes maxL none :: ws') (hrm : rmY.cells = mc ∧ rmY.slots = ms) (hini : Cond.initialized y.cls ∈ ws) (hinst : Cond.instanceMethod y ∈ ws) (hyn : y.name = "<init>") (hy : y.cls ≠ "java/lang/invoke/MethodHandle" ∧ y.cls ≠ "java/lang/invoke/VarHandle" ∧ (parseMethodDescriptor y.desc).map (fun d => d.parameters.length) = some 0) (hR0 : rmY.frames + 1 ≤ rm.frames ∧ 8 + (maxL + 11) + rmY.locals ≤ rm.locals) (hcat : (rest.map fun v => v.category).sum ≤ 8) (hcells : nc + mc ≤ rm.cells) (hslots : ns + ms ≤ rm.slots) (kk : ∀ u : Nat → Nat, u 0 = q → kW G (w ++ W1 u) (nc + mc) (ns + ms) lv rest (pc + 3)) : kW G (w ++ [(q, .inr (ci, fs))]) nc ns lv (.ref q :: rest) pc := by
  obtain ⟨p, l, e, R, s, m, args, below, meth, c, nL, A, H0, Q, D, a, cs, kc, ks⟩ := G
  obtain ⟨hx, hb, hml, hown, hts, hK, hA, hR, hNw, hin⟩ := hG
  intro H locs ls hP hD hS hl
  subst hR
  have hx1 : (w ++ [(q, (.inr (ci, fs) : va_E))])[w.length]? = some (q, .inr (ci, fs)) := by simp
  have hPc : va_P D vwCl [(q, .inr (ci, fs))] H := va_P_cons (hP w.length _ hx1) va_P_nil
  have hDc : va_D A [(q, .inr (ci, fs))] := hD.sub [w.length] rfl (by simp)
  have hC : [w.length].map (fun i => (w ++ [(q, (.inr (ci, fs) : va_E))])[i]?) = [(q, (.inr (ci, fs) : va_E))].map some := by simp
  have hFc := va_free (wc := [(q, .inr (ci, fs))]) hD hS hA [w.length] hC
  have hRr : (List.range w.length).map (fun i => (w ++ [(q, (.inr (ci, fs) : va_E))])[i]?) = w.map some := by
    apply List.ext_getElem?
    intro i
    by_cases hi : i < w.length
    · rw [List.getElem?_map, List.getElem?_range hi, List.getElem?_map]
      show some ((w ++ [(q, (.inr (ci, fs) : va_E))])[i]?) = _
      rw [List.getElem?_append_left hi, List.getElem?_eq_getElem hi]
      rfl
    · rw [List.getElem?_eq_none (by simp; omega), List.getElem?_eq_none (by simp; omega)]
  have hnd : va_nd (List.range w.length) = true := va_nd_range _
  refine va_callv (va_runIN (As := []) (rest := rest) ⟨hx, hb, hml, hown, hts⟩ (hM H.size) ⟨va_cnB 0 hts hg hw hrm.1 hrm.2 (hNl s hNw) (hts _ hini) hy hR0, hyn, hts _ hinst⟩ ⟨fun b U g mk z => ⟨z.1, z.2.1, z.2.2.1, va_K.moved (u := U) (U := U.calling g mk b) (Vm.Alike.refl U.vm) z.2.2.2.1, z.2.2.2.2.1, kNw.blind z.2.2.2.2.2⟩, fun U hU hW => ⟨rfl, by rw [hU], by rw [hU]; exact hPc, va_K.moved hW.alike hK, hDc.weaken (fun _ _ _ _ => trivial), kNw.warm hW hNw⟩⟩ rfl rfl hl.1 rfl (lv_room hcat) hd ⟨hcells, hslots⟩) hS (fun z _ h => hFc z h) hFc (fun u t H1 locs1 ht hvm hw1 hB hz1 hk1 hS1 => ?_)
  obtain ⟨hP1, hD1, hu⟩ := hB
  rw [ht] at hP1
  obtain ⟨hP2, hD2⟩ := va_join (wc := [(q, .inr (ci, fs))]) (wr := w) hP hD [w.length] (List.range w.length) hC hRr hnd (fun i hi hj => by simp at hi hj; omega) hk1 hFc hP1 hD1
  exact kk u hu H1 locs1 ls hP2 hD2 hS1 hl
end KR
