/-! one row an instruction, over the whole memory -/
abbrev xG : Type := Program × Launch × Env × Room × State × MethodId × Array Value × List Frame × Method × Code × Nat × (Nat → Prop) × Heap × (State → Prop) × va_G × (Nat → Nat) × xCs × Nat × Nat
def xtys (cs : xCs) : List (ClassId × FieldType) := [(cs.1, .int), (cs.2.1, .array .int), (cs.2.2.1, .object "QuietYards$Image"), (cs.2.2.2, .boolean)]
/-- the locals: a list by place, none where nothing is known -/
def xl (ls : Array Slot) (n : Nat) (lv : List (Option Value)) : Prop := ls.size = n ∧ lv_wf ls ∧ lv.length = n ∧ ∀ (i : Nat) (v : Value), lv[i]? = some (some v) → ls[i]? = some (.val v)
def xa (G : xG) : Nat → Nat := match G with | (p, l, e, R, s, m, args, below, meth, c, nL, A, H0, Q, D, a, cs, kc, ks) => a
def xL (G : xG) : Launch := match G with | (p, l, e, R, s, m, args, below, meth, c, nL, A, H0, Q, D, a, cs, kc, ks) => l
def xInj (a : Nat → Nat) : Prop := ∀ i j : Nat, i < 90 → j < 90 → a i = a j → i = j
/-- the machine at a place of the method, whatever the heap is, so long as it holds the memory -/
def xW (G : xG) (M : xMem) (lv : List (Option Value)) (st : List Value) (pc : Nat) : Prop := match G with
  | (p, l, e, R, s, m, args, below, meth, c, nL, A, H0, Q, D, a, cs, kc, ks) => ∀ (H : Heap) (locs : List Loc) (ls : Array Slot), va_P D vwCl (xWd a cs M) H → va_S A H0 H locs → xl ls nL lv → W p l e R s m args below meth c H locs kc ks Q (F0 m pc ls st)
/-- the words that the reader knows: where in its class's table, their texts, lengths, bytes -/
def xsIx : List Nat := [139, 145, 147, 149, 151, 152, 154, 155, 157, 159]
def xsTx : List String := ["hill", "wall", "felt", "wind", "right", "left", "down", "up", "worker", "deed"]
def xsLn : List Nat := [4, 4, 4, 4, 5, 4, 4, 2, 6, 4]
def xsBy : List (List Int32) := [[104, 105, 108, 108], [119, 97, 108, 108], [102, 101, 108, 116], [119, 105, 110, 100], [114, 105, 103, 104, 116], [108, 101, 102, 116], [100, 111, 119, 110], [117, 112], [119, 111, 114, 107, 101, 114], [100, 101, 101, 100]]
/-- the links between nest mates that methods run through; the JDK's statics that a text's methods read; the text constants (number 100 + i, their bytes 200 + i) -/
def xNw (a : Nat → Nat) (A : Nat → Prop) (U : State) (H : Heap) : Prop := va_Nw (.methodLinkNest RX5 116 yX8_within "QuietYards") U ∧ va_Nw (.methodLinkNest RX5 84 yX8_mostOf "QuietYards") U ∧ va_Z "java/lang/String" "COMPACT_STRINGS" "Z" (.int 1) A U H ∧ va_Zq "jdk/internal/util/Preconditions" "SIOOBE_FORMATTER" "Ljava/util/function/BiFunction;" A U H ∧ vk_S 10 xsLn xsBy (fun i => a (100 + i)) (fun i => a (200 + i)) A U H ∧ ∀ i, i < 10 → vk_R RX5 (xsIx.getD i 0) (xsTx.getD i "") (a (100 + i)) U
theorem xNw.go {a : Nat → Nat} {A B : Nat → Prop} {s U : State} {H0 H : Heap} {locs : List Loc} (hW : s.WarmedH U.vm) (hS : va_S A H0 H locs) (hF : ∀ q, B q → A q) (h : xNw a A s H0) : xNw a B U H := by
  obtain ⟨h1, h2, h3, h4, h5, h6⟩ := h
  exact ⟨va_Nw.warmM hW h1, va_Nw.warmM hW h2, va_Z.narrow (va_Z.moved hW.alike (va_Z.kept h3 hS.2.1)) hF, va_Zq.narrow (va_Zq.moved hW.alike (va_Zq.kept h4 hS.2.1)) hF, vk_S.narrow (vk_S.moved hW.alike (vk_S.kept h5 hS.2.1)) hF, fun i hi => vk_R.warm hW (h6 i hi)⟩
theorem xNw.blind {a : Nat → Nat} {A : Nat → Prop} {U : State} {g : JFrame} {mk : MethodId} {b : Array Value} (h : xNw a A U U.heap) : xNw a A (U.calling g mk b) (U.calling g mk b).heap := by
  obtain ⟨h1, h2, h3, h4, h5, h6⟩ := h
  exact ⟨va_Nw.same (u := U) rfl rfl h1, va_Nw.same (u := U) rfl rfl h2, va_Z.moved (u := U) (U := U.calling g mk b) (Vm.Alike.refl U.vm) h3, va_Zq.moved (u := U) (U := U.calling g mk b) (Vm.Alike.refl U.vm) h4, vk_S.moved (u := U) (U := U.calling g mk b) (Vm.Alike.refl U.vm) h5, fun i hi => vk_R.same (u := U) rfl (h6 i hi)⟩
def xOk (G : xG) (cc : ByteArray) (own : String) (ws : List Cond) (rm : Room) : Prop := match G with
  | (p, l, e, R, s, m, args, below, meth, c, nL, A, H0, Q, D, a, cs, kc, ks) => p.tables.exec = Jvm.exec ∧ c.code = cc ∧ c.maxLocals = nL ∧ s.vm.findClass own = some m.cls ∧ (∀ w ∈ ws, w.before args s = true) ∧ va_K D vwCl (xtys cs) s ∧ xInj a ∧ (∀ i, i < 90 → A (a i)) ∧ (∀ q, H0.size ≤ q → A q) ∧ R = rm ∧ kc ≤ R.cells ∧ ks ≤ R.slots ∧ xNw a A s H0 ∧ (H0 = s.heap)
def xA (a : Nat → Nat) (sz : Nat) : Nat → Prop := fun q => (∃ i, i < 90 ∧ q = a i) ∨ sz ≤ q
def xPre (D : va_G) (a : Nat → Nat) (cs : xCs) (M : xMem) (sz : Nat) (av : List Value) : Array Value → State → Prop := va_Pc av (fun U => U.heap.size = sz ∧ va_P D vwCl (xWd a cs M) U.heap ∧ va_K D vwCl (xtys cs) U ∧ xNw a (xA a sz) U U.heap)
def xB (D : va_G) (a : Nat → Nat) (cs : xCs) (M : xMem) (t : State) : Prop := va_P D vwCl (xWd a cs M) t.heap ∧ va_K D vwCl (xtys cs) t
def xBr (D : va_G) (a : Nat → Nat) (cs : xCs) (u : Nat × xMem) (ra : Nat) (t : State) : Prop := ra = a u.1 ∧ xB D a cs u.2 t
abbrev xMetI (l : Launch) (y : MethodName) (ws : List Cond) (rm : Room) (D : va_G) (a : Nat → Nat) (cs : xCs) (sz : Nat) (M : xMem) (av : List Value) (post : Int32 → xMem → Prop) : Prop := Met l y ws rm (xPre D a cs M sz av) (va_Qi post (xB D a cs) (xA a sz)) 0 0 (xA a sz)
abbrev xMetL (l : Launch) (y : MethodName) (ws : List Cond) (rm : Room) (D : va_G) (a : Nat → Nat) (cs : xCs) (sz : Nat) (M : xMem) (av : List Value) (post : Int64 → xMem → Prop) : Prop := Met l y ws rm (xPre D a cs M sz av) (va_Ql post (xB D a cs) (xA a sz)) 0 0 (xA a sz)
abbrev xMetV (l : Launch) (y : MethodName) (ws : List Cond) (rm : Room) (D : va_G) (a : Nat → Nat) (cs : xCs) (sz : Nat) (M : xMem) (av : List Value) (post : xMem → Prop) : Prop := Met l y ws rm (xPre D a cs M sz av) (va_Qv post (xB D a cs) (xA a sz)) 0 0 (xA a sz)
abbrev xMetR (l : Launch) (y : MethodName) (ws : List Cond) (rm : Room) (D : va_G) (a : Nat → Nat) (cs : xCs) (sz : Nat) (M : xMem) (av : List Value) (post : Nat → xMem → Prop) : Prop := Met l y ws rm (xPre D a cs M sz av) (va_Qr (fun u : Nat × xMem => post u.1 u.2) (xBr D a cs) (xA a sz)) 0 0 (xA a sz)
def xRetI (G : xG) (post : Int32 → xMem → Prop) (ty : FieldType) : Prop := match G with
  | (p, l, e, R, s, m, args, below, meth, c, nL, A, H0, Q, D, a, cs, kc, ks) => meth.sig.returnType = some ty ∧ meth.locks = false ∧ H0 = s.heap ∧ Q = MQ below (va_Qi post (xB D a cs) A) args s kc ks A
def xRetL (G : xG) (post : Int64 → xMem → Prop) : Prop := match G with
  | (p, l, e, R, s, m, args, below, meth, c, nL, A, H0, Q, D, a, cs, kc, ks) => meth.sig.returnType = some .long ∧ meth.locks = false ∧ H0 = s.heap ∧ Q = MQ below (va_Ql post (xB D a cs) A) args s kc ks A
def xRetV (G : xG) (post : xMem → Prop) : Prop := match G with
  | (p, l, e, R, s, m, args, below, meth, c, nL, A, H0, Q, D, a, cs, kc, ks) => meth.sig.returnType = none ∧ meth.locks = false ∧ H0 = s.heap ∧ Q = MQ below (va_Qv post (xB D a cs) A) args s kc ks A
def xRetR (G : xG) (post : Nat → xMem → Prop) : Prop := match G with
  | (p, l, e, R, s, m, args, below, meth, c, nL, A, H0, Q, D, a, cs, kc, ks) => meth.sig.returnType = some (.array .int) ∧ meth.locks = false ∧ H0 = s.heap ∧ Q = MQ below (va_Qr (fun u : Nat × xMem => post u.1 u.2) (xBr D a cs) A) args s kc ks A
def xps : List (Option Value) → Nat → List (Nat × Value)
  | [], _ => []
  | none :: t, k => xps t (k + 1)
  | some v :: t, k => (k, v) :: xps t (k + 1)
theorem xps_in : ∀ (lv : List (Option Value)) (k i : Nat) (v : Value), (i, v) ∈ xps lv k ↔ ∃ j, i = k + j ∧ lv[j]? = some (some v)
  | [], k, i, v => by simp [xps]
  | none :: t, k, i, v => by
    rw [xps, xps_in t (k + 1) i v]
    constructor
    · rintro ⟨j, h1, h2⟩
      exact ⟨j + 1, by omega, by simpa using h2⟩
    · rintro ⟨j, h1, h2⟩
      cases j with
      | zero => simp at h2
      | succ j => exact ⟨j, by omega, by simpa using h2⟩
  | some w :: t, k, i, v => by
    rw [xps, List.mem_cons, xps_in t (k + 1) i v]
    constructor
    · rintro (h | ⟨j, h1, h2⟩)
      · cases h
        exact ⟨0, by omega, by simp⟩
      · exact ⟨j + 1, by omega, by simpa using h2⟩
    · rintro ⟨j, h1, h2⟩
      cases j with
      | zero =>
        simp at h2
        subst h2
        exact Or.inl (by simp [h1])
      | succ j => exact Or.inr ⟨j, by omega, by simpa using h2⟩
theorem xl_to {ls : Array Slot} {n : Nat} {lv : List (Option Value)} (h : xl ls n lv) : lv_has ls n (xps lv 0) := by
  refine ⟨h.1, h.2.1, fun q hq => ?_⟩
  obtain ⟨i, v⟩ := q
  obtain ⟨j, h1, h2⟩ := (xps_in lv 0 i v).mp hq
  have e : i = j := by omega
  subst e
  exact h.2.2.2 i v h2
theorem xl_of {ls : Array Slot} {n : Nat} {lv : List (Option Value)} {l : List (Nat × Value)} (h : lv_has ls n l) (e : l = xps lv 0) (hn : lv.length = n) : xl ls n lv := by
  refine ⟨h.1, h.2.1, hn, fun i v hv => h.2.2 (i, v) ?_⟩
  rw [e]
  exact (xps_in lv 0 i v).mpr ⟨i, by omega, hv⟩
/-- what stands before the place isn't the first half of a long -/
def xok1 (lv : List (Option Value)) (i : Nat) : Bool := match i with
  | 0 => true
  | j + 1 => match lv[j]? with
    | some (some v) => v.category == 1
    | _ => true
theorem xok1_of {lv : List (Option Value)} {i j : Nat} {v : Value} (h : xok1 lv i = true) (hj : j + 1 = i) (hv : lv[j]? = some (some v)) : v.category = 1 := by
  subst hj
  simp only [xok1, hv] at h
  simpa using h
theorem xl_set1 {ls : Array Slot} {n : Nat} {lv : List (Option Value)} {i : Nat} {v : Value} (hi : i < lv.length) (hn : lv.length = n) (ho : xok1 lv i = true) (h : lv_has ls n ((i, v) :: (xps lv 0).filter (fun q => !(q.1 == i) && !(q.1 + 1 == i && q.2.category == 2)))) : xl ls n (lv.set i (some v)) := by
  refine ⟨h.1, h.2.1, by rw [List.length_set]; exact hn, fun j w hw => ?_⟩
  rw [List.getElem?_set] at hw
  by_cases e : i = j
  · subst e
    rw [if_pos rfl, if_pos hi] at hw
    cases hw
    exact h.2.2 (i, v) List.mem_cons_self
  · rw [if_neg e] at hw
    refine h.2.2 (j, w) (List.mem_cons_of_mem _ (List.mem_filter.mpr ⟨(xps_in lv 0 j w).mpr ⟨j, by omega, hw⟩, ?_⟩))
    have h1 : (j == i) = false := by simpa using fun q => e q.symm
    by_cases e2 : j + 1 = i
    · have := xok1_of ho e2 hw
      simp [h1, this]
    · simp [h1, e2]
theorem xl_set2 {ls : Array Slot} {n : Nat} {lv : List (Option Value)} {i : Nat} {v : Value} (hi : i + 1 < lv.length) (hn : lv.length = n) (ho : xok1 lv i = true) (h : lv_has ls n ((i, v) :: (xps lv 0).filter (fun q => !(q.1 == i) && (!(q.1 == i + 1) && !(q.1 + 1 == i && q.2.category == 2))))) : xl ls n ((lv.set i (some v)).set (i + 1) none) := by
  refine ⟨h.1, h.2.1, by rw [List.length_set, List.length_set]; exact hn, fun j w hw => ?_⟩
  rw [List.getElem?_set] at hw
  by_cases e1 : i + 1 = j
  · subst e1
    rw [if_pos rfl, if_pos (by rw [List.length_set]; exact hi)] at hw
    cases hw
  rw [if_neg e1, List.getElem?_set] at hw
  by_cases e : i = j
  · subst e
    rw [if_pos rfl, if_pos (by omega)] at hw
    cases hw
    exact h.2.2 (i, v) List.mem_cons_self
  · rw [if_neg e] at hw
    refine h.2.2 (j, w) (List.mem_cons_of_mem _ (List.mem_filter.mpr ⟨(xps_in lv 0 j w).mpr ⟨j, by omega, hw⟩, ?_⟩))
    have h1 : (j == i) = false := by simpa using fun q => e q.symm
    have h2 : (j == i + 1) = false := by simpa using fun q => e1 q.symm
    by_cases e2 : j + 1 = i
    · have := xok1_of ho e2 hw
      simp [h1, h2, this]
    · simp [h1, h2, e2]
theorem xl_keep {ls : Array Slot} {n : Nat} {lv : List (Option Value)} (ks : List Bool) (hk : ks.length = lv.length) (h : xl ls n lv) : xl ls n (List.zipWith (fun (b : Bool) (o : Option Value) => if b then o else none) ks lv) := by
  refine ⟨h.1, h.2.1, by rw [List.length_zipWith, hk, Nat.min_self]; exact h.2.2.1, fun i v hv => h.2.2.2 i v ?_⟩
  rw [List.getElem?_zipWith] at hv
  cases hk : ks[i]? with
  | none => rw [hk] at hv; simp at hv
  | some b =>
    cases ho : lv[i]? with
    | none => rw [hk, ho] at hv; simp at hv
    | some o =>
      rw [hk, ho] at hv
      cases b with
      | true => simpa using hv
      | false => simp at hv
theorem xl_more {ls : Array Slot} {n : Nat} {lv : List (Option Value)} {i : Nat} {v : Value} (h : xl ls n lv) (h0 : lv[i]? = some (some v)) : lv_has ls n ((i, v) :: xps lv 0) := by
  refine ⟨h.1, h.2.1, fun q hq => ?_⟩
  rcases List.mem_cons.mp hq with rfl | hq
  · exact h.2.2.2 _ _ h0
  · exact (xl_to h).2.2 q hq
theorem xl_less {ls : Array Slot} {n i : Nat} {v w : Value} {l : List (Nat × Value)} {f : Nat × Value → Bool} (h : lv_has ls n ((i, v) :: ((i, w) :: l).filter f)) : lv_has ls n ((i, v) :: l.filter f) := by
  refine ⟨h.1, h.2.1, fun q hq => h.2.2 q ?_⟩
  rcases List.mem_cons.mp hq with rfl | hq
  · exact List.mem_cons_self
  · obtain ⟨h1, h2⟩ := List.mem_filter.mp hq
    exact List.mem_cons_of_mem _ (List.mem_filter.mpr ⟨List.mem_cons_of_mem _ h1, h2⟩)
section XR
variable {G : xG} {M : xMem} {lv : List (Option Value)} {rest : List Value} {pc : Nat} {cc : ByteArray} {own : String} {ws : List Cond} {rm : Room}

theorem x_iconst {n : Int} {v : Int32} (hG : xOk G cc own ws rm) (hd : decode cc pc = .ok (.iconst n, 1)) (hv : Int32.ofInt n = v) (k : xW G M lv (.int v :: rest) (pc + 1)) : xW G M lv rest pc := by
  obtain ⟨p, l, e, R, s, m, args, below, meth, c, nL, A, H0, Q, D, a, cs, kc, ks⟩ := G
  obtain ⟨hx, hb, hml, hown, hts, hK, hI, hAi, hAn, hR, hc1, hc2, hNw, hH0⟩ := hG
  intro H locs ls hP hS hl
  exact lv_iconst hx hb hd hv (k H locs ls hP hS hl)
theorem x_bipush {n : Int} {v : Int32} (hG : xOk G cc own ws rm) (hd : decode cc pc = .ok (.bipush n, 2)) (hv : (Int8.ofInt n).toInt32 = v) (k : xW G M lv (.int v :: rest) (pc + 2)) : xW G M lv rest pc := by
  obtain ⟨p, l, e, R, s, m, args, below, meth, c, nL, A, H0, Q, D, a, cs, kc, ks⟩ := G
  obtain ⟨hx, hb, hml, hown, hts, hK, hI, hAi, hAn, hR, hc1, hc2, hNw, hH0⟩ := hG
  intro H locs ls hP hS hl
  exact lv_bipush hx hb hd hv (k H locs ls hP hS hl)
theorem x_sipush {n : Int} {v : Int32} (hG : xOk G cc own ws rm) (hd : decode cc pc = .ok (.sipush n, 3)) (hv : (Int16.ofInt n).toInt32 = v) (k : xW G M lv (.int v :: rest) (pc + 3)) : xW G M lv rest pc := by
  obtain ⟨p, l, e, R, s, m, args, below, meth, c, nL, A, H0, Q, D, a, cs, kc, ks⟩ := G
  obtain ⟨hx, hb, hml, hown, hts, hK, hI, hAi, hAn, hR, hc1, hc2, hNw, hH0⟩ := hG
  intro H locs ls hP hS hl
  exact lv_sipush hx hb hd hv (k H locs ls hP hS hl)
theorem x_lconst {n : Fin 2} {v : Int64} (hG : xOk G cc own ws rm) (hd : decode cc pc = .ok (.lconst n, 1)) (hv : Int64.ofNat (n : Nat) = v) (k : xW G M lv (.long v :: rest) (pc + 1)) : xW G M lv rest pc := by
  obtain ⟨p, l, e, R, s, m, args, below, meth, c, nL, A, H0, Q, D, a, cs, kc, ks⟩ := G
  obtain ⟨hx, hb, hml, hown, hts, hK, hI, hAi, hAn, hR, hc1, hc2, hNw, hH0⟩ := hG
  intro H locs ls hP hS hl
  exact lv_lconst hx hb hd hv (k H locs ls hP hS hl)
theorem x_ldc {index : Nat} {v : Int32} (hG : xOk G cc own ws rm) (hd : decode cc pc = .ok (.ldc index, 2)) (hw : Cond.constant own index v ∈ ws) (k : xW G M lv (.int v :: rest) (pc + 2)) : xW G M lv rest pc := by
  obtain ⟨p, l, e, R, s, m, args, below, meth, c, nL, A, H0, Q, D, a, cs, kc, ks⟩ := G
  obtain ⟨hx, hb, hml, hown, hts, hK, hI, hAi, hAn, hR, hc1, hc2, hNw, hH0⟩ := hG
  intro H locs ls hP hS hl
  exact lv_ldc hx hb hown (hts _ hw) hd (k H locs ls hP hS hl)
theorem x_ldc2 {index : Nat} {v : Int64} (hG : xOk G cc own ws rm) (hd : decode cc pc = .ok (.ldc2_w index, 3)) (hw : Cond.constantLong own index v ∈ ws) (k : xW G M lv (.long v :: rest) (pc + 3)) : xW G M lv rest pc := by
  obtain ⟨p, l, e, R, s, m, args, below, meth, c, nL, A, H0, Q, D, a, cs, kc, ks⟩ := G
  obtain ⟨hx, hb, hml, hown, hts, hK, hI, hAi, hAn, hR, hc1, hc2, hNw, hH0⟩ := hG
  intro H locs ls hP hS hl
  exact lv_ldc2 hx hb hown (hts _ hw) hd (k H locs ls hP hS hl)
theorem x_iload_n {j : Fin 4} {i : Nat} {x : Int32} (hG : xOk G cc own ws rm) (hd : decode cc pc = .ok (.iload_n j, 1)) (hi : (j : Nat) = i) (hl0 : lv[i]? = some (some (.int x))) (k : xW G M lv (.int x :: rest) (pc + 1)) : xW G M lv rest pc := by
  obtain ⟨p, l, e, R, s, m, args, below, meth, c, nL, A, H0, Q, D, a, cs, kc, ks⟩ := G
  obtain ⟨hx, hb, hml, hown, hts, hK, hI, hAi, hAn, hR, hc1, hc2, hNw, hH0⟩ := hG
  intro H locs ls hP hS hl
  exact lv_iload_n hx hb hd hi (hl.2.2.2 _ _ hl0) (k H locs ls hP hS hl)
theorem x_iload {i : Nat} {x : Int32} (hG : xOk G cc own ws rm) (hd : decode cc pc = .ok (.iload i, 2)) (hl0 : lv[i]? = some (some (.int x))) (k : xW G M lv (.int x :: rest) (pc + 2)) : xW G M lv rest pc := by
  obtain ⟨p, l, e, R, s, m, args, below, meth, c, nL, A, H0, Q, D, a, cs, kc, ks⟩ := G
  obtain ⟨hx, hb, hml, hown, hts, hK, hI, hAi, hAn, hR, hc1, hc2, hNw, hH0⟩ := hG
  intro H locs ls hP hS hl
  exact lv_iload hx hb hd (hl.2.2.2 _ _ hl0) (k H locs ls hP hS hl)
theorem x_istore_n {j : Fin 4} {i : Nat} {x : Int32} (hG : xOk G cc own ws rm) (hd : decode cc pc = .ok (.istore_n j, 1)) (hi : (j : Nat) = i) (hn : i < lv.length) (ho : xok1 lv i = true) (k : xW G M (lv.set i (some (.int x))) rest (pc + 1)) : xW G M lv (.int x :: rest) pc := by
  obtain ⟨p, l, e, R, s, m, args, below, meth, c, nL, A, H0, Q, D, a, cs, kc, ks⟩ := G
  obtain ⟨hx, hb, hml, hown, hts, hK, hI, hAi, hAn, hR, hc1, hc2, hNw, hH0⟩ := hG
  intro H locs ls hP hS hl
  exact lv_istore_n hx hb hd hi (xl_to hl) (by rw [← hl.2.2.1]; exact hn) rfl (fun ls2 h2 => k H locs ls2 hP hS (xl_set1 hn hl.2.2.1 ho h2))
theorem x_istore {i : Nat} {x : Int32} (hG : xOk G cc own ws rm) (hd : decode cc pc = .ok (.istore i, 2)) (hn : i < lv.length) (ho : xok1 lv i = true) (k : xW G M (lv.set i (some (.int x))) rest (pc + 2)) : xW G M lv (.int x :: rest) pc := by
  obtain ⟨p, l, e, R, s, m, args, below, meth, c, nL, A, H0, Q, D, a, cs, kc, ks⟩ := G
  obtain ⟨hx, hb, hml, hown, hts, hK, hI, hAi, hAn, hR, hc1, hc2, hNw, hH0⟩ := hG
  intro H locs ls hP hS hl
  exact lv_istore hx hb hd (xl_to hl) (by rw [← hl.2.2.1]; exact hn) rfl (fun ls2 h2 => k H locs ls2 hP hS (xl_set1 hn hl.2.2.1 ho h2))
theorem x_lload_n {j : Fin 4} {i : Nat} {x : Int64} (hG : xOk G cc own ws rm) (hd : decode cc pc = .ok (.lload_n j, 1)) (hi : (j : Nat) = i) (hl0 : lv[i]? = some (some (.long x))) (k : xW G M lv (.long x :: rest) (pc + 1)) : xW G M lv rest pc := by
  obtain ⟨p, l, e, R, s, m, args, below, meth, c, nL, A, H0, Q, D, a, cs, kc, ks⟩ := G
  obtain ⟨hx, hb, hml, hown, hts, hK, hI, hAi, hAn, hR, hc1, hc2, hNw, hH0⟩ := hG
  intro H locs ls hP hS hl
  exact lv_lload_n hx hb hd hi (hl.2.2.2 _ _ hl0) (k H locs ls hP hS hl)
theorem x_lload {i : Nat} {x : Int64} (hG : xOk G cc own ws rm) (hd : decode cc pc = .ok (.lload i, 2)) (hl0 : lv[i]? = some (some (.long x))) (k : xW G M lv (.long x :: rest) (pc + 2)) : xW G M lv rest pc := by
  obtain ⟨p, l, e, R, s, m, args, below, meth, c, nL, A, H0, Q, D, a, cs, kc, ks⟩ := G
  obtain ⟨hx, hb, hml, hown, hts, hK, hI, hAi, hAn, hR, hc1, hc2, hNw, hH0⟩ := hG
  intro H locs ls hP hS hl
  exact lv_lload hx hb hd (hl.2.2.2 _ _ hl0) (k H locs ls hP hS hl)
theorem x_lstore_n {j : Fin 4} {i : Nat} {x : Int64} (hG : xOk G cc own ws rm) (hd : decode cc pc = .ok (.lstore_n j, 1)) (hi : (j : Nat) = i) (hn : i + 1 < lv.length) (ho : xok1 lv i = true) (k : xW G M ((lv.set i (some (.long x))).set (i + 1) none) rest (pc + 1)) : xW G M lv (.long x :: rest) pc := by
  obtain ⟨p, l, e, R, s, m, args, below, meth, c, nL, A, H0, Q, D, a, cs, kc, ks⟩ := G
  obtain ⟨hx, hb, hml, hown, hts, hK, hI, hAi, hAn, hR, hc1, hc2, hNw, hH0⟩ := hG
  intro H locs ls hP hS hl
  exact lv_lstore_n hx hb hd hi (xl_to hl) (by rw [← hl.2.2.1]; exact hn) rfl (fun ls2 h2 => k H locs ls2 hP hS (xl_set2 hn hl.2.2.1 ho h2))
theorem x_lstore {i : Nat} {x : Int64} (hG : xOk G cc own ws rm) (hd : decode cc pc = .ok (.lstore i, 2)) (hn : i + 1 < lv.length) (ho : xok1 lv i = true) (k : xW G M ((lv.set i (some (.long x))).set (i + 1) none) rest (pc + 2)) : xW G M lv (.long x :: rest) pc := by
  obtain ⟨p, l, e, R, s, m, args, below, meth, c, nL, A, H0, Q, D, a, cs, kc, ks⟩ := G
  obtain ⟨hx, hb, hml, hown, hts, hK, hI, hAi, hAn, hR, hc1, hc2, hNw, hH0⟩ := hG
  intro H locs ls hP hS hl
  exact lv_lstore hx hb hd (xl_to hl) (by rw [← hl.2.2.1]; exact hn) rfl (fun ls2 h2 => k H locs ls2 hP hS (xl_set2 hn hl.2.2.1 ho h2))
theorem x_aload_n {j : Fin 4} {i : Nat} {x : Nat} (hG : xOk G cc own ws rm) (hd : decode cc pc = .ok (.aload_n j, 1)) (hi : (j : Nat) = i) (hl0 : lv[i]? = some (some (.ref x))) (k : xW G M lv (.ref x :: rest) (pc + 1)) : xW G M lv rest pc := by
  obtain ⟨p, l, e, R, s, m, args, below, meth, c, nL, A, H0, Q, D, a, cs, kc, ks⟩ := G
  obtain ⟨hx, hb, hml, hown, hts, hK, hI, hAi, hAn, hR, hc1, hc2, hNw, hH0⟩ := hG
  intro H locs ls hP hS hl
  exact lv_aload_n hx hb hd hi (hl.2.2.2 _ _ hl0) (k H locs ls hP hS hl)
theorem x_aload {i : Nat} {x : Nat} (hG : xOk G cc own ws rm) (hd : decode cc pc = .ok (.aload i, 2)) (hl0 : lv[i]? = some (some (.ref x))) (k : xW G M lv (.ref x :: rest) (pc + 2)) : xW G M lv rest pc := by
  obtain ⟨p, l, e, R, s, m, args, below, meth, c, nL, A, H0, Q, D, a, cs, kc, ks⟩ := G
  obtain ⟨hx, hb, hml, hown, hts, hK, hI, hAi, hAn, hR, hc1, hc2, hNw, hH0⟩ := hG
  intro H locs ls hP hS hl
  exact lv_aload hx hb hd (hl.2.2.2 _ _ hl0) (k H locs ls hP hS hl)
theorem x_astore_n {j : Fin 4} {i : Nat} {x : Nat} (hG : xOk G cc own ws rm) (hd : decode cc pc = .ok (.astore_n j, 1)) (hi : (j : Nat) = i) (hn : i < lv.length) (ho : xok1 lv i = true) (k : xW G M (lv.set i (some (.ref x))) rest (pc + 1)) : xW G M lv (.ref x :: rest) pc := by
  obtain ⟨p, l, e, R, s, m, args, below, meth, c, nL, A, H0, Q, D, a, cs, kc, ks⟩ := G
  obtain ⟨hx, hb, hml, hown, hts, hK, hI, hAi, hAn, hR, hc1, hc2, hNw, hH0⟩ := hG
  intro H locs ls hP hS hl
  exact lv_astore_n hx hb hd hi (xl_to hl) (by rw [← hl.2.2.1]; exact hn) rfl (fun ls2 h2 => k H locs ls2 hP hS (xl_set1 hn hl.2.2.1 ho h2))
theorem x_astore {i : Nat} {x : Nat} (hG : xOk G cc own ws rm) (hd : decode cc pc = .ok (.astore i, 2)) (hn : i < lv.length) (ho : xok1 lv i = true) (k : xW G M (lv.set i (some (.ref x))) rest (pc + 2)) : xW G M lv (.ref x :: rest) pc := by
  obtain ⟨p, l, e, R, s, m, args, below, meth, c, nL, A, H0, Q, D, a, cs, kc, ks⟩ := G
  obtain ⟨hx, hb, hml, hown, hts, hK, hI, hAi, hAn, hR, hc1, hc2, hNw, hH0⟩ := hG
  intro H locs ls hP hS hl
  exact lv_astore hx hb hd (xl_to hl) (by rw [← hl.2.2.1]; exact hn) rfl (fun ls2 h2 => k H locs ls2 hP hS (xl_set1 hn hl.2.2.1 ho h2))
theorem x_iinc {i : Nat} {n : Int} {x v : Int32} (hG : xOk G cc own ws rm) (hd : decode cc pc = .ok (.iinc i n, 3)) (hl0 : lv[i]? = some (some (.int x))) (hv : x + Int32.ofInt n = v) (hn : i < lv.length) (ho : xok1 lv i = true) (k : xW G M (lv.set i (some (.int v))) rest (pc + 3)) : xW G M lv rest pc := by
  obtain ⟨p, l, e, R, s, m, args, below, meth, c, nL, A, H0, Q, D, a, cs, kc, ks⟩ := G
  obtain ⟨hx, hb, hml, hown, hts, hK, hI, hAi, hAn, hR, hc1, hc2, hNw, hH0⟩ := hG
  intro H locs ls hP hS hl
  exact lv_iinc (k := 0) (lv := (i, .int x) :: xps lv 0) (lv' := _) hx hb hd (xl_more hl hl0) rfl hv (by rw [← hl.2.2.1]; exact hn) rfl (fun ls2 h2 => k H locs ls2 hP hS (xl_set1 hn hl.2.2.1 ho (xl_less h2)))
theorem x_iadd {x y : Int32} (hG : xOk G cc own ws rm) (hd : decode cc pc = .ok (.iadd, 1)) (k : xW G M lv (.int (x + y) :: rest) (pc + 1)) : xW G M lv (.int y :: .int x :: rest) pc := by
  obtain ⟨p, l, e, R, s, m, args, below, meth, c, nL, A, H0, Q, D, a, cs, kc, ks⟩ := G
  obtain ⟨hx, hb, hml, hown, hts, hK, hI, hAi, hAn, hR, hc1, hc2, hNw, hH0⟩ := hG
  intro H locs ls hP hS hl
  exact lv_iadd hx hb hd (k H locs ls hP hS hl)
theorem x_isub {x y : Int32} (hG : xOk G cc own ws rm) (hd : decode cc pc = .ok (.isub, 1)) (k : xW G M lv (.int (x - y) :: rest) (pc + 1)) : xW G M lv (.int y :: .int x :: rest) pc := by
  obtain ⟨p, l, e, R, s, m, args, below, meth, c, nL, A, H0, Q, D, a, cs, kc, ks⟩ := G
  obtain ⟨hx, hb, hml, hown, hts, hK, hI, hAi, hAn, hR, hc1, hc2, hNw, hH0⟩ := hG
  intro H locs ls hP hS hl
  exact lv_isub hx hb hd (k H locs ls hP hS hl)
theorem x_imul {x y : Int32} (hG : xOk G cc own ws rm) (hd : decode cc pc = .ok (.imul, 1)) (k : xW G M lv (.int (x * y) :: rest) (pc + 1)) : xW G M lv (.int y :: .int x :: rest) pc := by
  obtain ⟨p, l, e, R, s, m, args, below, meth, c, nL, A, H0, Q, D, a, cs, kc, ks⟩ := G
  obtain ⟨hx, hb, hml, hown, hts, hK, hI, hAi, hAn, hR, hc1, hc2, hNw, hH0⟩ := hG
  intro H locs ls hP hS hl
  exact lv_imul hx hb hd (k H locs ls hP hS hl)
theorem x_iand {x y : Int32} (hG : xOk G cc own ws rm) (hd : decode cc pc = .ok (.iand, 1)) (k : xW G M lv (.int (x &&& y) :: rest) (pc + 1)) : xW G M lv (.int y :: .int x :: rest) pc := by
  obtain ⟨p, l, e, R, s, m, args, below, meth, c, nL, A, H0, Q, D, a, cs, kc, ks⟩ := G
  obtain ⟨hx, hb, hml, hown, hts, hK, hI, hAi, hAn, hR, hc1, hc2, hNw, hH0⟩ := hG
  intro H locs ls hP hS hl
  exact lv_iand hx hb hd (k H locs ls hP hS hl)
theorem x_ior {x y : Int32} (hG : xOk G cc own ws rm) (hd : decode cc pc = .ok (.ior, 1)) (k : xW G M lv (.int (x ||| y) :: rest) (pc + 1)) : xW G M lv (.int y :: .int x :: rest) pc := by
  obtain ⟨p, l, e, R, s, m, args, below, meth, c, nL, A, H0, Q, D, a, cs, kc, ks⟩ := G
  obtain ⟨hx, hb, hml, hown, hts, hK, hI, hAi, hAn, hR, hc1, hc2, hNw, hH0⟩ := hG
  intro H locs ls hP hS hl
  exact lv_ior hx hb hd (k H locs ls hP hS hl)
theorem x_ixor {x y : Int32} (hG : xOk G cc own ws rm) (hd : decode cc pc = .ok (.ixor, 1)) (k : xW G M lv (.int (x ^^^ y) :: rest) (pc + 1)) : xW G M lv (.int y :: .int x :: rest) pc := by
  obtain ⟨p, l, e, R, s, m, args, below, meth, c, nL, A, H0, Q, D, a, cs, kc, ks⟩ := G
  obtain ⟨hx, hb, hml, hown, hts, hK, hI, hAi, hAn, hR, hc1, hc2, hNw, hH0⟩ := hG
  intro H locs ls hP hS hl
  exact lv_ixor hx hb hd (k H locs ls hP hS hl)
theorem x_ishl {x y : Int32} (hG : xOk G cc own ws rm) (hd : decode cc pc = .ok (.ishl, 1)) (k : xW G M lv (.int (x <<< (y &&& 31)) :: rest) (pc + 1)) : xW G M lv (.int y :: .int x :: rest) pc := by
  obtain ⟨p, l, e, R, s, m, args, below, meth, c, nL, A, H0, Q, D, a, cs, kc, ks⟩ := G
  obtain ⟨hx, hb, hml, hown, hts, hK, hI, hAi, hAn, hR, hc1, hc2, hNw, hH0⟩ := hG
  intro H locs ls hP hS hl
  exact lv_ishl hx hb hd (k H locs ls hP hS hl)
theorem x_ishr {x y : Int32} (hG : xOk G cc own ws rm) (hd : decode cc pc = .ok (.ishr, 1)) (k : xW G M lv (.int (x >>> (y &&& 31)) :: rest) (pc + 1)) : xW G M lv (.int y :: .int x :: rest) pc := by
  obtain ⟨p, l, e, R, s, m, args, below, meth, c, nL, A, H0, Q, D, a, cs, kc, ks⟩ := G
  obtain ⟨hx, hb, hml, hown, hts, hK, hI, hAi, hAn, hR, hc1, hc2, hNw, hH0⟩ := hG
  intro H locs ls hP hS hl
  exact lv_ishr hx hb hd (k H locs ls hP hS hl)
theorem x_idiv {x y : Int32} (hG : xOk G cc own ws rm) (hd : decode cc pc = .ok (.idiv, 1)) (hne : ¬ y = 0) (k : xW G M lv (.int (x / y) :: rest) (pc + 1)) : xW G M lv (.int y :: .int x :: rest) pc := by
  obtain ⟨p, l, e, R, s, m, args, below, meth, c, nL, A, H0, Q, D, a, cs, kc, ks⟩ := G
  obtain ⟨hx, hb, hml, hown, hts, hK, hI, hAi, hAn, hR, hc1, hc2, hNw, hH0⟩ := hG
  intro H locs ls hP hS hl
  exact lv_idiv hx hb hd hne (k H locs ls hP hS hl)
theorem x_irem {x y : Int32} (hG : xOk G cc own ws rm) (hd : decode cc pc = .ok (.irem, 1)) (hne : ¬ y = 0) (k : xW G M lv (.int (x - x / y * y) :: rest) (pc + 1)) : xW G M lv (.int y :: .int x :: rest) pc := by
  obtain ⟨p, l, e, R, s, m, args, below, meth, c, nL, A, H0, Q, D, a, cs, kc, ks⟩ := G
  obtain ⟨hx, hb, hml, hown, hts, hK, hI, hAi, hAn, hR, hc1, hc2, hNw, hH0⟩ := hG
  intro H locs ls hP hS hl
  exact lv_irem hx hb hd hne (k H locs ls hP hS hl)
theorem x_ineg {x : Int32} (hG : xOk G cc own ws rm) (hd : decode cc pc = .ok (.ineg, 1)) (k : xW G M lv (.int (-x) :: rest) (pc + 1)) : xW G M lv (.int x :: rest) pc := by
  obtain ⟨p, l, e, R, s, m, args, below, meth, c, nL, A, H0, Q, D, a, cs, kc, ks⟩ := G
  obtain ⟨hx, hb, hml, hown, hts, hK, hI, hAi, hAn, hR, hc1, hc2, hNw, hH0⟩ := hG
  intro H locs ls hP hS hl
  exact lv_ineg hx hb hd (k H locs ls hP hS hl)
theorem x_ladd {x y : Int64} (hG : xOk G cc own ws rm) (hd : decode cc pc = .ok (.ladd, 1)) (k : xW G M lv (.long (x + y) :: rest) (pc + 1)) : xW G M lv (.long y :: .long x :: rest) pc := by
  obtain ⟨p, l, e, R, s, m, args, below, meth, c, nL, A, H0, Q, D, a, cs, kc, ks⟩ := G
  obtain ⟨hx, hb, hml, hown, hts, hK, hI, hAi, hAn, hR, hc1, hc2, hNw, hH0⟩ := hG
  intro H locs ls hP hS hl
  exact lv_ladd hx hb hd (k H locs ls hP hS hl)
theorem x_lmul {x y : Int64} (hG : xOk G cc own ws rm) (hd : decode cc pc = .ok (.lmul, 1)) (k : xW G M lv (.long (x * y) :: rest) (pc + 1)) : xW G M lv (.long y :: .long x :: rest) pc := by
  obtain ⟨p, l, e, R, s, m, args, below, meth, c, nL, A, H0, Q, D, a, cs, kc, ks⟩ := G
  obtain ⟨hx, hb, hml, hown, hts, hK, hI, hAi, hAn, hR, hc1, hc2, hNw, hH0⟩ := hG
  intro H locs ls hP hS hl
  exact lv_lmul hx hb hd (k H locs ls hP hS hl)
theorem x_land {x y : Int64} (hG : xOk G cc own ws rm) (hd : decode cc pc = .ok (.land, 1)) (k : xW G M lv (.long (x &&& y) :: rest) (pc + 1)) : xW G M lv (.long y :: .long x :: rest) pc := by
  obtain ⟨p, l, e, R, s, m, args, below, meth, c, nL, A, H0, Q, D, a, cs, kc, ks⟩ := G
  obtain ⟨hx, hb, hml, hown, hts, hK, hI, hAi, hAn, hR, hc1, hc2, hNw, hH0⟩ := hG
  intro H locs ls hP hS hl
  exact lv_land hx hb hd (k H locs ls hP hS hl)
theorem x_lor {x y : Int64} (hG : xOk G cc own ws rm) (hd : decode cc pc = .ok (.lor, 1)) (k : xW G M lv (.long (x ||| y) :: rest) (pc + 1)) : xW G M lv (.long y :: .long x :: rest) pc := by
  obtain ⟨p, l, e, R, s, m, args, below, meth, c, nL, A, H0, Q, D, a, cs, kc, ks⟩ := G
  obtain ⟨hx, hb, hml, hown, hts, hK, hI, hAi, hAn, hR, hc1, hc2, hNw, hH0⟩ := hG
  intro H locs ls hP hS hl
  exact lv_lor hx hb hd (k H locs ls hP hS hl)
theorem x_i2l {x : Int32} (hG : xOk G cc own ws rm) (hd : decode cc pc = .ok (.i2l, 1)) (k : xW G M lv (.long x.toInt64 :: rest) (pc + 1)) : xW G M lv (.int x :: rest) pc := by
  obtain ⟨p, l, e, R, s, m, args, below, meth, c, nL, A, H0, Q, D, a, cs, kc, ks⟩ := G
  obtain ⟨hx, hb, hml, hown, hts, hK, hI, hAi, hAn, hR, hc1, hc2, hNw, hH0⟩ := hG
  intro H locs ls hP hS hl
  exact lv_i2l hx hb hd rfl (k H locs ls hP hS hl)
theorem x_l2i {x : Int64} (hG : xOk G cc own ws rm) (hd : decode cc pc = .ok (.l2i, 1)) (k : xW G M lv (.int x.toInt32 :: rest) (pc + 1)) : xW G M lv (.long x :: rest) pc := by
  obtain ⟨p, l, e, R, s, m, args, below, meth, c, nL, A, H0, Q, D, a, cs, kc, ks⟩ := G
  obtain ⟨hx, hb, hml, hown, hts, hK, hI, hAi, hAn, hR, hc1, hc2, hNw, hH0⟩ := hG
  intro H locs ls hP hS hl
  exact lv_l2i hx hb hd rfl (k H locs ls hP hS hl)
theorem x_i2c {x : Int32} (hG : xOk G cc own ws rm) (hd : decode cc pc = .ok (.i2c, 1)) (k : xW G M lv (.int (x.toUInt32 % 65536).toInt32 :: rest) (pc + 1)) : xW G M lv (.int x :: rest) pc := by
  obtain ⟨p, l, e, R, s, m, args, below, meth, c, nL, A, H0, Q, D, a, cs, kc, ks⟩ := G
  obtain ⟨hx, hb, hml, hown, hts, hK, hI, hAi, hAn, hR, hc1, hc2, hNw, hH0⟩ := hG
  intro H locs ls hP hS hl
  exact lv_i2c hx hb hd rfl (k H locs ls hP hS hl)
theorem x_lushr {x : Int64} {y : Int32} (hG : xOk G cc own ws rm) (hd : decode cc pc = .ok (.lushr, 1)) (k : xW G M lv (.long (x.toUInt64 >>> (y.toInt64.toUInt64 &&& Int64.toUInt64 63)).toInt64 :: rest) (pc + 1)) : xW G M lv (.int y :: .long x :: rest) pc := by
  obtain ⟨p, l, e, R, s, m, args, below, meth, c, nL, A, H0, Q, D, a, cs, kc, ks⟩ := G
  obtain ⟨hx, hb, hml, hown, hts, hK, hI, hAi, hAn, hR, hc1, hc2, hNw, hH0⟩ := hG
  intro H locs ls hP hS hl
  exact lv_lushr hx hb hd rfl (k H locs ls hP hS hl)
theorem x_lshl {x : Int64} {y : Int32} (hG : xOk G cc own ws rm) (hd : decode cc pc = .ok (.lshl, 1)) (k : xW G M lv (.long (x <<< (y.toInt64 &&& 63)) :: rest) (pc + 1)) : xW G M lv (.int y :: .long x :: rest) pc := by
  obtain ⟨p, l, e, R, s, m, args, below, meth, c, nL, A, H0, Q, D, a, cs, kc, ks⟩ := G
  obtain ⟨hx, hb, hml, hown, hts, hK, hI, hAi, hAn, hR, hc1, hc2, hNw, hH0⟩ := hG
  intro H locs ls hP hS hl
  exact lv_lshl hx hb hd rfl (k H locs ls hP hS hl)
theorem x_lshr {x : Int64} {y : Int32} (hG : xOk G cc own ws rm) (hd : decode cc pc = .ok (.lshr, 1)) (k : xW G M lv (.long (x >>> (y.toInt64 &&& 63)) :: rest) (pc + 1)) : xW G M lv (.int y :: .long x :: rest) pc := by
  obtain ⟨p, l, e, R, s, m, args, below, meth, c, nL, A, H0, Q, D, a, cs, kc, ks⟩ := G
  obtain ⟨hx, hb, hml, hown, hts, hK, hI, hAi, hAn, hR, hc1, hc2, hNw, hH0⟩ := hG
  intro H locs ls hP hS hl
  exact lv_lshr hx hb hd rfl (k H locs ls hP hS hl)
theorem x_lcmp {x y : Int64} (hG : xOk G cc own ws rm) (hd : decode cc pc = .ok (.lcmp, 1)) (k : xW G M lv (.int (lg_cmp x y) :: rest) (pc + 1)) : xW G M lv (.long y :: .long x :: rest) pc := by
  obtain ⟨p, l, e, R, s, m, args, below, meth, c, nL, A, H0, Q, D, a, cs, kc, ks⟩ := G
  obtain ⟨hx, hb, hml, hown, hts, hK, hI, hAi, hAn, hR, hc1, hc2, hNw, hH0⟩ := hG
  intro H locs ls hP hS hl
  exact W.lcmp hx hb hd (k H locs ls hP hS hl)
theorem x_dup {v : Value} (hG : xOk G cc own ws rm) (hd : decode cc pc = .ok (.dup, 1)) (hv : v.category = 1) (k : xW G M lv (v :: v :: rest) (pc + 1)) : xW G M lv (v :: rest) pc := by
  obtain ⟨p, l, e, R, s, m, args, below, meth, c, nL, A, H0, Q, D, a, cs, kc, ks⟩ := G
  obtain ⟨hx, hb, hml, hown, hts, hK, hI, hAi, hAn, hR, hc1, hc2, hNw, hH0⟩ := hG
  intro H locs ls hP hS hl
  exact lv_dup hx hb hd hv (k H locs ls hP hS hl)
theorem x_pop {v : Value} (hG : xOk G cc own ws rm) (hd : decode cc pc = .ok (.pop, 1)) (hv : v.category = 1) (k : xW G M lv rest (pc + 1)) : xW G M lv (v :: rest) pc := by
  obtain ⟨p, l, e, R, s, m, args, below, meth, c, nL, A, H0, Q, D, a, cs, kc, ks⟩ := G
  obtain ⟨hx, hb, hml, hown, hts, hK, hI, hAi, hAn, hR, hc1, hc2, hNw, hH0⟩ := hG
  intro H locs ls hP hS hl
  exact lv_pop hx hb hd hv (k H locs ls hP hS hl)
theorem x_dup2 {v w : Value} (hG : xOk G cc own ws rm) (hd : decode cc pc = .ok (.dup2, 1)) (hv : v.category = 1) (hw : w.category = 1) (k : xW G M lv (v :: w :: v :: w :: rest) (pc + 1)) : xW G M lv (v :: w :: rest) pc := by
  obtain ⟨p, l, e, R, s, m, args, below, meth, c, nL, A, H0, Q, D, a, cs, kc, ks⟩ := G
  obtain ⟨hx, hb, hml, hown, hts, hK, hI, hAi, hAn, hR, hc1, hc2, hNw, hH0⟩ := hG
  intro H locs ls hP hS hl
  exact lv_dup2_11 hx hb hd hv hw (k H locs ls hP hS hl)
theorem x_dup2l {v : Value} (hG : xOk G cc own ws rm) (hd : decode cc pc = .ok (.dup2, 1)) (hv : v.category = 2) (k : xW G M lv (v :: v :: rest) (pc + 1)) : xW G M lv (v :: rest) pc := by
  obtain ⟨p, l, e, R, s, m, args, below, meth, c, nL, A, H0, Q, D, a, cs, kc, ks⟩ := G
  obtain ⟨hx, hb, hml, hown, hts, hK, hI, hAi, hAn, hR, hc1, hc2, hNw, hH0⟩ := hG
  intro H locs ls hP hS hl
  exact lv_dup2_2 hx hb hd hv (k H locs ls hP hS hl)
theorem x_dup_x1 {v w : Value} (hG : xOk G cc own ws rm) (hd : decode cc pc = .ok (.dup_x1, 1)) (hv : v.category = 1) (hw : w.category = 1) (k : xW G M lv (v :: w :: v :: rest) (pc + 1)) : xW G M lv (v :: w :: rest) pc := by
  obtain ⟨p, l, e, R, s, m, args, below, meth, c, nL, A, H0, Q, D, a, cs, kc, ks⟩ := G
  obtain ⟨hx, hb, hml, hown, hts, hK, hI, hAi, hAn, hR, hc1, hc2, hNw, hH0⟩ := hG
  intro H locs ls hP hS hl
  exact lv_dup_x1 hx hb hd hv hw (k H locs ls hP hS hl)
theorem x_icmp_eq {x y : Int32} {off : Int} {tgt : Nat} (hG : xOk G cc own ws rm) (hd : decode cc pc = .ok (.if_icmp .eq off, 3)) (ht : (pc : Int) + off = (tgt : Int)) (kt : x = y → xW G M lv rest tgt) (kf : ¬ x = y → xW G M lv rest (pc + 3)) : xW G M lv (.int y :: .int x :: rest) pc := by
  obtain ⟨p, l, e, R, s, m, args, below, meth, c, nL, A, H0, Q, D, a, cs, kc, ks⟩ := G
  obtain ⟨hx, hb, hml, hown, hts, hK, hI, hAi, hAn, hR, hc1, hc2, hNw, hH0⟩ := hG
  intro H locs ls hP hS hl
  exact lv_icmp_eq hx hb hd ht (fun q => kt q H locs ls hP hS hl) (fun q => kf q H locs ls hP hS hl)
theorem x_if_eq {x : Int32} {off : Int} {tgt : Nat} (hG : xOk G cc own ws rm) (hd : decode cc pc = .ok (.ifCond .eq off, 3)) (ht : (pc : Int) + off = (tgt : Int)) (kt : x = 0 → xW G M lv rest tgt) (kf : ¬ x = 0 → xW G M lv rest (pc + 3)) : xW G M lv (.int x :: rest) pc := by
  obtain ⟨p, l, e, R, s, m, args, below, meth, c, nL, A, H0, Q, D, a, cs, kc, ks⟩ := G
  obtain ⟨hx, hb, hml, hown, hts, hK, hI, hAi, hAn, hR, hc1, hc2, hNw, hH0⟩ := hG
  intro H locs ls hP hS hl
  exact lv_if_eq hx hb hd ht (fun q => kt q H locs ls hP hS hl) (fun q => kf q H locs ls hP hS hl)
theorem x_icmp_ne {x y : Int32} {off : Int} {tgt : Nat} (hG : xOk G cc own ws rm) (hd : decode cc pc = .ok (.if_icmp .ne off, 3)) (ht : (pc : Int) + off = (tgt : Int)) (kt : ¬ x = y → xW G M lv rest tgt) (kf : x = y → xW G M lv rest (pc + 3)) : xW G M lv (.int y :: .int x :: rest) pc := by
  obtain ⟨p, l, e, R, s, m, args, below, meth, c, nL, A, H0, Q, D, a, cs, kc, ks⟩ := G
  obtain ⟨hx, hb, hml, hown, hts, hK, hI, hAi, hAn, hR, hc1, hc2, hNw, hH0⟩ := hG
  intro H locs ls hP hS hl
  exact lv_icmp_ne hx hb hd ht (fun q => kt q H locs ls hP hS hl) (fun q => kf q H locs ls hP hS hl)
theorem x_if_ne {x : Int32} {off : Int} {tgt : Nat} (hG : xOk G cc own ws rm) (hd : decode cc pc = .ok (.ifCond .ne off, 3)) (ht : (pc : Int) + off = (tgt : Int)) (kt : ¬ x = 0 → xW G M lv rest tgt) (kf : x = 0 → xW G M lv rest (pc + 3)) : xW G M lv (.int x :: rest) pc := by
  obtain ⟨p, l, e, R, s, m, args, below, meth, c, nL, A, H0, Q, D, a, cs, kc, ks⟩ := G
  obtain ⟨hx, hb, hml, hown, hts, hK, hI, hAi, hAn, hR, hc1, hc2, hNw, hH0⟩ := hG
  intro H locs ls hP hS hl
  exact lv_if_ne hx hb hd ht (fun q => kt q H locs ls hP hS hl) (fun q => kf q H locs ls hP hS hl)
theorem x_icmp_lt {x y : Int32} {off : Int} {tgt : Nat} (hG : xOk G cc own ws rm) (hd : decode cc pc = .ok (.if_icmp .lt off, 3)) (ht : (pc : Int) + off = (tgt : Int)) (kt : x < y → xW G M lv rest tgt) (kf : ¬ x < y → xW G M lv rest (pc + 3)) : xW G M lv (.int y :: .int x :: rest) pc := by
  obtain ⟨p, l, e, R, s, m, args, below, meth, c, nL, A, H0, Q, D, a, cs, kc, ks⟩ := G
  obtain ⟨hx, hb, hml, hown, hts, hK, hI, hAi, hAn, hR, hc1, hc2, hNw, hH0⟩ := hG
  intro H locs ls hP hS hl
  exact lv_icmp_lt hx hb hd ht (fun q => kt q H locs ls hP hS hl) (fun q => kf q H locs ls hP hS hl)
theorem x_if_lt {x : Int32} {off : Int} {tgt : Nat} (hG : xOk G cc own ws rm) (hd : decode cc pc = .ok (.ifCond .lt off, 3)) (ht : (pc : Int) + off = (tgt : Int)) (kt : x < 0 → xW G M lv rest tgt) (kf : ¬ x < 0 → xW G M lv rest (pc + 3)) : xW G M lv (.int x :: rest) pc := by
  obtain ⟨p, l, e, R, s, m, args, below, meth, c, nL, A, H0, Q, D, a, cs, kc, ks⟩ := G
  obtain ⟨hx, hb, hml, hown, hts, hK, hI, hAi, hAn, hR, hc1, hc2, hNw, hH0⟩ := hG
  intro H locs ls hP hS hl
  exact lv_if_lt hx hb hd ht (fun q => kt q H locs ls hP hS hl) (fun q => kf q H locs ls hP hS hl)
theorem x_icmp_ge {x y : Int32} {off : Int} {tgt : Nat} (hG : xOk G cc own ws rm) (hd : decode cc pc = .ok (.if_icmp .ge off, 3)) (ht : (pc : Int) + off = (tgt : Int)) (kt : y ≤ x → xW G M lv rest tgt) (kf : ¬ y ≤ x → xW G M lv rest (pc + 3)) : xW G M lv (.int y :: .int x :: rest) pc := by
  obtain ⟨p, l, e, R, s, m, args, below, meth, c, nL, A, H0, Q, D, a, cs, kc, ks⟩ := G
  obtain ⟨hx, hb, hml, hown, hts, hK, hI, hAi, hAn, hR, hc1, hc2, hNw, hH0⟩ := hG
  intro H locs ls hP hS hl
  exact lv_icmp_ge hx hb hd ht (fun q => kt q H locs ls hP hS hl) (fun q => kf q H locs ls hP hS hl)
theorem x_if_ge {x : Int32} {off : Int} {tgt : Nat} (hG : xOk G cc own ws rm) (hd : decode cc pc = .ok (.ifCond .ge off, 3)) (ht : (pc : Int) + off = (tgt : Int)) (kt : 0 ≤ x → xW G M lv rest tgt) (kf : ¬ 0 ≤ x → xW G M lv rest (pc + 3)) : xW G M lv (.int x :: rest) pc := by
  obtain ⟨p, l, e, R, s, m, args, below, meth, c, nL, A, H0, Q, D, a, cs, kc, ks⟩ := G
  obtain ⟨hx, hb, hml, hown, hts, hK, hI, hAi, hAn, hR, hc1, hc2, hNw, hH0⟩ := hG
  intro H locs ls hP hS hl
  exact lv_if_ge hx hb hd ht (fun q => kt q H locs ls hP hS hl) (fun q => kf q H locs ls hP hS hl)
theorem x_icmp_gt {x y : Int32} {off : Int} {tgt : Nat} (hG : xOk G cc own ws rm) (hd : decode cc pc = .ok (.if_icmp .gt off, 3)) (ht : (pc : Int) + off = (tgt : Int)) (kt : y < x → xW G M lv rest tgt) (kf : ¬ y < x → xW G M lv rest (pc + 3)) : xW G M lv (.int y :: .int x :: rest) pc := by
  obtain ⟨p, l, e, R, s, m, args, below, meth, c, nL, A, H0, Q, D, a, cs, kc, ks⟩ := G
  obtain ⟨hx, hb, hml, hown, hts, hK, hI, hAi, hAn, hR, hc1, hc2, hNw, hH0⟩ := hG
  intro H locs ls hP hS hl
  exact lv_icmp_gt hx hb hd ht (fun q => kt q H locs ls hP hS hl) (fun q => kf q H locs ls hP hS hl)
theorem x_if_gt {x : Int32} {off : Int} {tgt : Nat} (hG : xOk G cc own ws rm) (hd : decode cc pc = .ok (.ifCond .gt off, 3)) (ht : (pc : Int) + off = (tgt : Int)) (kt : 0 < x → xW G M lv rest tgt) (kf : ¬ 0 < x → xW G M lv rest (pc + 3)) : xW G M lv (.int x :: rest) pc := by
  obtain ⟨p, l, e, R, s, m, args, below, meth, c, nL, A, H0, Q, D, a, cs, kc, ks⟩ := G
  obtain ⟨hx, hb, hml, hown, hts, hK, hI, hAi, hAn, hR, hc1, hc2, hNw, hH0⟩ := hG
  intro H locs ls hP hS hl
  exact lv_if_gt hx hb hd ht (fun q => kt q H locs ls hP hS hl) (fun q => kf q H locs ls hP hS hl)
theorem x_icmp_le {x y : Int32} {off : Int} {tgt : Nat} (hG : xOk G cc own ws rm) (hd : decode cc pc = .ok (.if_icmp .le off, 3)) (ht : (pc : Int) + off = (tgt : Int)) (kt : x ≤ y → xW G M lv rest tgt) (kf : ¬ x ≤ y → xW G M lv rest (pc + 3)) : xW G M lv (.int y :: .int x :: rest) pc := by
  obtain ⟨p, l, e, R, s, m, args, below, meth, c, nL, A, H0, Q, D, a, cs, kc, ks⟩ := G
  obtain ⟨hx, hb, hml, hown, hts, hK, hI, hAi, hAn, hR, hc1, hc2, hNw, hH0⟩ := hG
  intro H locs ls hP hS hl
  exact lv_icmp_le hx hb hd ht (fun q => kt q H locs ls hP hS hl) (fun q => kf q H locs ls hP hS hl)
theorem x_if_le {x : Int32} {off : Int} {tgt : Nat} (hG : xOk G cc own ws rm) (hd : decode cc pc = .ok (.ifCond .le off, 3)) (ht : (pc : Int) + off = (tgt : Int)) (kt : x ≤ 0 → xW G M lv rest tgt) (kf : ¬ x ≤ 0 → xW G M lv rest (pc + 3)) : xW G M lv (.int x :: rest) pc := by
  obtain ⟨p, l, e, R, s, m, args, below, meth, c, nL, A, H0, Q, D, a, cs, kc, ks⟩ := G
  obtain ⟨hx, hb, hml, hown, hts, hK, hI, hAi, hAn, hR, hc1, hc2, hNw, hH0⟩ := hG
  intro H locs ls hP hS hl
  exact lv_if_le hx hb hd ht (fun q => kt q H locs ls hP hS hl) (fun q => kf q H locs ls hP hS hl)
theorem x_goto {off : Int} {tgt : Nat} (hG : xOk G cc own ws rm) (hd : decode cc pc = .ok (.goto off, 3)) (ht : (pc : Int) + off = (tgt : Int)) (k : xW G M lv rest tgt) : xW G M lv rest pc := by
  obtain ⟨p, l, e, R, s, m, args, below, meth, c, nL, A, H0, Q, D, a, cs, kc, ks⟩ := G
  obtain ⟨hx, hb, hml, hown, hts, hK, hI, hAi, hAn, hR, hc1, hc2, hNw, hH0⟩ := hG
  intro H locs ls hP hS hl
  exact lv_goto hx hb hd ht (k H locs ls hP hS hl)
theorem x_tsIn {dflt lo hi : Int} {offs : Array Int} {len : Nat} {x : Int32} {off : Int} {tgt : Nat} (hG : xOk G cc own ws rm) (hd : decode cc pc = .ok (.tableswitch dflt lo hi offs, len)) (v : Int) (hx0 : x.toInt = v) (hv : (decide (lo ≤ v) && decide (v ≤ hi)) = true) (ho : offs[(v - lo).toNat]? = some off) (ht : (pc : Int) + off = (tgt : Int)) (k : xW G M lv rest tgt) : xW G M lv (.int x :: rest) pc := by
  obtain ⟨p, l, e, R, s, m, args, below, meth, c, nL, A, H0, Q, D, a, cs, kc, ks⟩ := G
  obtain ⟨hx, hb, hml, hown, hts, hK, hI, hAi, hAn, hR, hc1, hc2, hNw, hH0⟩ := hG
  intro H locs ls hP hS hl
  rw [Bool.and_eq_true, decide_eq_true_eq, decide_eq_true_eq] at hv
  subst hx0
  exact lv_tableIn hx hb hd (by omega) (by omega) ho ht (k H locs ls hP hS hl)
theorem x_tsOut {dflt lo hi : Int} {offs : Array Int} {len : Nat} {x : Int32} {tgt : Nat} (hG : xOk G cc own ws rm) (hd : decode cc pc = .ok (.tableswitch dflt lo hi offs, len)) (h : x.toInt < lo ∨ hi < x.toInt) (ht : (pc : Int) + dflt = (tgt : Int)) (k : xW G M lv rest tgt) : xW G M lv (.int x :: rest) pc := by
  obtain ⟨p, l, e, R, s, m, args, below, meth, c, nL, A, H0, Q, D, a, cs, kc, ks⟩ := G
  obtain ⟨hx, hb, hml, hown, hts, hK, hI, hAi, hAn, hR, hc1, hc2, hNw, hH0⟩ := hG
  intro H locs ls hP hS hl
  exact lv_tableOut hx hb hd h ht (k H locs ls hP hS hl)
theorem x_keep (kp : List Bool) (hk : kp.length = lv.length) (k : xW G M (List.zipWith (fun (b : Bool) (o : Option Value) => if b then o else none) kp lv) rest pc) : xW G M lv rest pc := by
  obtain ⟨p, l, e, R, s, m, args, below, meth, c, nL, A, H0, Q, D, a, cs, kc, ks⟩ := G
  intro H locs ls hP hS hl
  exact k H locs ls hP hS (xl_keep kp hk hl)

end XR
