/-! the constructors -/
/-- what the class's cells hold when all are made -/
def m0 (i : Nat) : Nat → Int32 := if i = 0 then (fun k => if k = 5 then nI 35 else if k = 6 then nI 58 else 0) else if i = 5 then (fun k => if k = 2 then 3 else 0) else if i = 35 then (fun k => if k = 0 then 4 else if k = 1 then 3 else 0) else if i = 58 then (fun k => if k = 0 then 4 else if k = 1 then 3 else 0) else fun _ => 0
def M00 : xMem := (m0, fun _ => 0)
/-- a block of cells: from number b on, n of them, at the addresses u 0, u 1 .. -/
def kBl (cs : xCs) (b n : Nat) (u : Nat → Nat) : va_W := (List.range n).map (fun i => (u i, xcell (fun j => u (j - b)) cs M00 (b + i)))
theorem va_D_perm {A : Nat → Prop} {w w' : va_W} (is : List Nat) (hn : va_nd is = true) (hs : is.map (fun i => (w[i]?).map Prod.fst) = w'.map (fun q => some q.1)) (h : va_D A w) : va_D A w' := by
  have at' : ∀ (k : Nat) (q : Nat × va_E), w'[k]? = some q → ∃ i e, is[k]? = some i ∧ w[i]? = some (q.1, e) := by
    intro k q hq
    have h1 : (is.map (fun i => (w[i]?).map Prod.fst))[k]? = some (some q.1) := by rw [hs, List.getElem?_map, hq]; rfl
    rw [List.getElem?_map] at h1
    cases hi : is[k]? with
    | none => rw [hi] at h1; cases h1
    | some i =>
      rw [hi] at h1
      have h2 : (w[i]?).map Prod.fst = some q.1 := Option.some.inj h1
      cases hw : w[i]? with
      | none => rw [hw] at h2; cases h2
      | some z =>
        rw [hw] at h2
        have h3 : z.1 = q.1 := Option.some.inj h2
        exact ⟨i, z.2, rfl, by rw [hw, ← h3]⟩
  refine ⟨fun i j p q hp hq hpq => ?_, fun k q hq => ?_⟩
  · obtain ⟨a, e1, a1, a2⟩ := at' i p hp
    obtain ⟨b, e2, b1, b2⟩ := at' j q hq
    have := h.1 a b _ _ a2 b2 hpq
    subst this
    exact va_nd_inj is hn i j a a1 b1
  · obtain ⟨a, e1, a1, a2⟩ := at' k q hq
    exact h.2 a (q.1, e1) a2
theorem k_cast {G : xG} {w w2 : va_W} {nc ns : Nat} {lv : List (Option Value)} {st : List Value} {pc : Nat} (e : w = w2) (k : kW G w2 nc ns lv st pc) : kW G w nc ns lv st pc := e ▸ k
theorem k_met {l : Launch} {y : MethodName} {cc : ByteArray} {nL : Nat} {own : String} {ws ws' : List Cond} {rm : Room} {h0 ci : Nat} {fs : List Value} {W1 : (Nat → Nat) → va_W} {mc ms : Nat} (lv : List (Option Value)) (hy : plainName y.cls = true) (hw : ws = Cond.code y cc nL none :: ws') (ho : y.cls = own) (hlen : (lg_sl [.ref h0]).length ≤ nL) (hlv : lv_args 0 [.ref h0] = xps lv 0) (hln : lv.length = nL) (D : va_G) (cs : xCs) (sz : Nat) (hrm : (headSpec ws rm).room = rm) (hyn : y.name = "<init>")
    (body : ∀ G : xG, xL G = l → xD G = D → xC G = cs → kOk G cc own ws rm → kRet G h0 W1 mc ms → kW G [(h0, .inr (ci, fs))] 0 0 lv [] 0) : kMet l y ws rm D cs sz h0 ci fs W1 mc ms := by
  refine Met.ofW (cc := cc) (maxL := nL) (ret := none) hy hw ?_
  intro p e s m args below meth c s₁ B hml hv
  obtain ⟨rfl, hsz, hP, hK, hD0, hNw⟩ := hv
  subst hsz
  have hts := atoms_spec (ws := ws) B.pre
  have hown : s.vm.findClass own = some m.cls := ho ▸ findClass_of_methodNamed B.named
  rw [lg_entry_eq]
  have hl := lv_entry [.ref h0] (n := nL) hlen
  have hin : meth.name = "<init>" := (name_of_methodNamed B.named B.method).1.trans hyn
  refine body (p, l, e, (headSpec ws rm).room, s, m, [Value.ref h0].toArray, below, meth, c, nL, va_A [(h0, .inr (ci, fs))] s.heap.size, s.heap, _, D, fun i => i, cs, 0, 0) rfl rfl rfl ?_ ?_ s.heap [] _ hP (hD0.self) va_S.rf (xl_of hl hlv hln)
  · exact ⟨B.exec, B.bytes, hml, hown, hts, hK, fun q h => Or.inr h, hrm, hNw, fun _ => hin⟩
  · exact ⟨B.returns, B.notSynchronized, rfl, rfl⟩
abbrev rm_X7_init : Room := { frames := 1, cells := 1, slots := 400, locals := 12 }
theorem hy_X7_init : yX7_init.cls ≠ "java/lang/invoke/MethodHandle" ∧ yX7_init.cls ≠ "java/lang/invoke/VarHandle" ∧ (parseMethodDescriptor yX7_init.desc).map (fun d => d.parameters.length) = some 0 := by decide +kernel
theorem hin_X7_init_X7 : ∀ w ∈ wsX70, w ∈ wsX7_init := fun _ h => List.mem_cons_of_mem _ (List.mem_append_right _ h)
set_option maxRecDepth 100000 in
set_option maxHeartbeats 8000000 in
theorem c_X7_init (l : Launch) (D : va_G) (cs : xCs) (sz h0 : Nat) : kMet l yX7_init wsX7_init rm_X7_init D cs sz h0 7 [.null, .int 0] (kBl cs 2 2) 1 400 := by
  refine k_met [some (.ref h0)] (by decide) rfl rfl (Nat.le_of_ble_eq_true rfl) rfl rfl D cs sz rfl rfl (fun G e1 e2 e3 hG hQ => ?_)
  subst e1
  subst e2
  subst e3
  refine k_aload_n hG dX7_init_0 rfl rfl ?_
  refine k_objInit hG dX7_init_1 (List.mem_of_getElem? (i := 1) rfl) (List.mem_of_getElem? (i := 2) rfl) (List.mem_of_getElem? (i := 3) rfl) (Nat.le_of_ble_eq_true rfl) (Nat.le_of_ble_eq_true rfl) ?_
  refine k_aload_n hG dX7_init_4 rfl rfl ?_
  refine k_sipush (v := (400 : Int32)) hG dX7_init_5 (by decide) ?_
  refine k_newi (N := 400) hG dX7_init_8 (List.mem_of_getElem? (i := 4) rfl) (by decide) (by decide) (Nat.le_of_ble_eq_true rfl) (Nat.le_of_ble_eq_true rfl) (Nat.le_of_ble_eq_true rfl) (fun q1 => ?_)
  refine k_putF (C := RX7) (T := TX7) (N := 2) (q0 := 0) hG dX7_init_10 hin_X7_init_X7 tyX7 tyX7_ok nmX7 rfl rfl 0 (by decide) (List.mem_of_getElem? (i := 5) rfl) rfl rfl (by decide) rfl rfl (Nat.le_of_ble_eq_true rfl) ?_
  refine k_cast (w2 := [(h0, .inr (7, [.ref q1, .int 0])), (q1, .inl ((xC G).1, 400, .inl (fun _ => 0)))]) rfl ?_
  exact k_ret (fun i => [h0, q1].getD i 0) [] hG hQ dX7_init_13 rfl (fun H hP => va_P_cons (hP 0 _ rfl) (va_P_cons (hP 1 _ rfl) (va_P_nil))) (fun A hD => va_D_perm [0, 1] (by decide +kernel) rfl hD)
abbrev rm_X0_init : Room := { frames := 1, cells := 2, slots := 192, locals := 12 }
theorem hy_X0_init : yX0_init.cls ≠ "java/lang/invoke/MethodHandle" ∧ yX0_init.cls ≠ "java/lang/invoke/VarHandle" ∧ (parseMethodDescriptor yX0_init.desc).map (fun d => d.parameters.length) = some 0 := by decide +kernel
theorem hin_X0_init_X0 : ∀ w ∈ wsX00, w ∈ wsX0_init := fun _ h => List.mem_cons_of_mem _ (List.mem_append_right _ h)
set_option maxRecDepth 100000 in
set_option maxHeartbeats 8000000 in
theorem c_X0_init (l : Launch) (D : va_G) (cs : xCs) (sz h0 : Nat) : kMet l yX0_init wsX0_init rm_X0_init D cs sz h0 0 [.null, .null, .int 0, .int 0] (kBl cs 22 3) 2 192 := by
  refine k_met [some (.ref h0)] (by decide) rfl rfl (Nat.le_of_ble_eq_true rfl) rfl rfl D cs sz rfl rfl (fun G e1 e2 e3 hG hQ => ?_)
  subst e1
  subst e2
  subst e3
  refine k_aload_n hG dX0_init_0 rfl rfl ?_
  refine k_objInit hG dX0_init_1 (List.mem_of_getElem? (i := 1) rfl) (List.mem_of_getElem? (i := 2) rfl) (List.mem_of_getElem? (i := 3) rfl) (Nat.le_of_ble_eq_true rfl) (Nat.le_of_ble_eq_true rfl) ?_
  refine k_aload_n hG dX0_init_4 rfl rfl ?_
  refine k_bipush (v := (96 : Int32)) hG dX0_init_5 (by decide) ?_
  refine k_newi (N := 96) hG dX0_init_7 (List.mem_of_getElem? (i := 4) rfl) (by decide) (by decide) (Nat.le_of_ble_eq_true rfl) (Nat.le_of_ble_eq_true rfl) (Nat.le_of_ble_eq_true rfl) (fun q1 => ?_)
  refine k_putF (C := RX0) (T := TX0) (N := 4) (q0 := 0) hG dX0_init_9 hin_X0_init_X0 tyX0 tyX0_ok nmX0 rfl rfl 0 (by decide) (List.mem_of_getElem? (i := 5) rfl) rfl rfl (by decide) rfl rfl (Nat.le_of_ble_eq_true rfl) ?_
  refine k_aload_n hG dX0_init_12 rfl rfl ?_
  refine k_bipush (v := (96 : Int32)) hG dX0_init_13 (by decide) ?_
  refine k_newi (N := 96) hG dX0_init_15 (List.mem_of_getElem? (i := 4) rfl) (by decide) (by decide) (Nat.le_of_ble_eq_true rfl) (Nat.le_of_ble_eq_true rfl) (Nat.le_of_ble_eq_true rfl) (fun q2 => ?_)
  refine k_putF (C := RX0) (T := TX0) (N := 4) (q0 := 0) hG dX0_init_17 hin_X0_init_X0 tyX0 tyX0_ok nmX0 rfl rfl 1 (by decide) (List.mem_of_getElem? (i := 6) rfl) rfl rfl (by decide) rfl rfl (Nat.le_of_ble_eq_true rfl) ?_
  refine k_cast (w2 := [(h0, .inr (0, [.ref q1, .ref q2, .int 0, .int 0])), (q1, .inl ((xC G).1, 96, .inl (fun _ => 0))), (q2, .inl ((xC G).1, 96, .inl (fun _ => 0)))]) rfl ?_
  exact k_ret (fun i => [h0, q1, q2].getD i 0) [] hG hQ dX0_init_20 rfl (fun H hP => va_P_cons (hP 0 _ rfl) (va_P_cons (hP 1 _ rfl) (va_P_cons (hP 2 _ rfl) (va_P_nil)))) (fun A hD => va_D_perm [0, 1, 2] (by decide +kernel) rfl hD)
abbrev rm_X1_init : Room := { frames := 1, cells := 2, slots := 12, locals := 12 }
theorem hy_X1_init : yX1_init.cls ≠ "java/lang/invoke/MethodHandle" ∧ yX1_init.cls ≠ "java/lang/invoke/VarHandle" ∧ (parseMethodDescriptor yX1_init.desc).map (fun d => d.parameters.length) = some 0 := by decide +kernel
theorem hin_X1_init_X1 : ∀ w ∈ wsX10, w ∈ wsX1_init := fun _ h => List.mem_cons_of_mem _ (List.mem_append_right _ h)
set_option maxRecDepth 100000 in
set_option maxHeartbeats 8000000 in
theorem c_X1_init (l : Launch) (D : va_G) (cs : xCs) (sz h0 : Nat) : kMet l yX1_init wsX1_init rm_X1_init D cs sz h0 1 [.null, .null, .int 0] (kBl cs 17 3) 2 12 := by
  refine k_met [some (.ref h0)] (by decide) rfl rfl (Nat.le_of_ble_eq_true rfl) rfl rfl D cs sz rfl rfl (fun G e1 e2 e3 hG hQ => ?_)
  subst e1
  subst e2
  subst e3
  refine k_aload_n hG dX1_init_0 rfl rfl ?_
  refine k_objInit hG dX1_init_1 (List.mem_of_getElem? (i := 1) rfl) (List.mem_of_getElem? (i := 2) rfl) (List.mem_of_getElem? (i := 3) rfl) (Nat.le_of_ble_eq_true rfl) (Nat.le_of_ble_eq_true rfl) ?_
  refine k_aload_n hG dX1_init_4 rfl rfl ?_
  refine k_bipush (v := (6 : Int32)) hG dX1_init_5 (by decide) ?_
  refine k_newi (N := 6) hG dX1_init_7 (List.mem_of_getElem? (i := 4) rfl) (by decide) (by decide) (Nat.le_of_ble_eq_true rfl) (Nat.le_of_ble_eq_true rfl) (Nat.le_of_ble_eq_true rfl) (fun q1 => ?_)
  refine k_putF (C := RX1) (T := TX1) (N := 3) (q0 := 0) hG dX1_init_9 hin_X1_init_X1 tyX1 tyX1_ok nmX1 rfl rfl 0 (by decide) (List.mem_of_getElem? (i := 5) rfl) rfl rfl (by decide) rfl rfl (Nat.le_of_ble_eq_true rfl) ?_
  refine k_aload_n hG dX1_init_12 rfl rfl ?_
  refine k_bipush (v := (6 : Int32)) hG dX1_init_13 (by decide) ?_
  refine k_newi (N := 6) hG dX1_init_15 (List.mem_of_getElem? (i := 4) rfl) (by decide) (by decide) (Nat.le_of_ble_eq_true rfl) (Nat.le_of_ble_eq_true rfl) (Nat.le_of_ble_eq_true rfl) (fun q2 => ?_)
  refine k_putF (C := RX1) (T := TX1) (N := 3) (q0 := 0) hG dX1_init_17 hin_X1_init_X1 tyX1 tyX1_ok nmX1 rfl rfl 1 (by decide) (List.mem_of_getElem? (i := 6) rfl) rfl rfl (by decide) rfl rfl (Nat.le_of_ble_eq_true rfl) ?_
  refine k_cast (w2 := [(h0, .inr (1, [.ref q1, .ref q2, .int 0])), (q1, .inl ((xC G).1, 6, .inl (fun _ => 0))), (q2, .inl ((xC G).1, 6, .inl (fun _ => 0)))]) rfl ?_
  exact k_ret (fun i => [h0, q1, q2].getD i 0) [] hG hQ dX1_init_20 rfl (fun H hP => va_P_cons (hP 0 _ rfl) (va_P_cons (hP 1 _ rfl) (va_P_cons (hP 2 _ rfl) (va_P_nil)))) (fun A hD => va_D_perm [0, 1, 2] (by decide +kernel) rfl hD)
