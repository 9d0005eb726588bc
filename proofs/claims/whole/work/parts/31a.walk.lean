abbrev rm_X9_in : Room := { frames := 0, cells := 0, slots := 0, locals := 0 }
theorem hy_X9_in : yX9_in.cls ≠ "java/lang/invoke/MethodHandle" ∧ yX9_in.cls ≠ "java/lang/invoke/VarHandle" ∧ (parseMethodDescriptor yX9_in.desc).map (fun d => d.parameters.length) = some 3 := by decide +kernel
set_option maxRecDepth 100000 in
set_option maxHeartbeats 4000000 in
theorem c_X9_in {l : Launch} {a : Nat → Nat} {M : xMem} {p0 : Int32} {p1 : Int32} {p2 : Int32} {post : Int32 → xMem → Prop} (ha : xInj a) (h : w_X9_in M p0 p1 p2 post) : ∀ D cs sz, xMetI l yX9_in wsX9_in rm_X9_in D a cs sz M [.int p0, .int p1, .int p2] post := by
  intro D cs sz
  unfold w_X9_in at h
  refine x_metI (ty := .boolean) [some (.int p0), some (.int p1), some (.int p2)] (by decide) rfl rfl (Nat.le_of_ble_eq_true rfl) rfl rfl ha D cs sz rfl (fun G e1 e2 hG hQ => ?_)
  subst e1
  subst e2
  refine x_iload_n hG dX9_in_0 rfl rfl ?_
  refine x_iload_n hG dX9_in_1 rfl rfl ?_
  refine x_icmp_lt (tgt := 14) hG dX9_in_2 (by decide) (fun hc1 => ?_) (fun hc1 => ?_)
  · have h := h.1 hc1
    refine x_iconst (v := (0 : Int32)) hG dX9_in_14 (by decide) ?_
    exact x_iret hG hQ dX9_in_15 rfl h
  · have h := h.2 hc1
    refine x_iload_n hG dX9_in_5 rfl rfl ?_
    refine x_iload_n hG dX9_in_6 rfl rfl ?_
    refine x_icmp_gt (tgt := 14) hG dX9_in_7 (by decide) (fun hc2 => ?_) (fun hc2 => ?_)
    · have h := h.1 hc2
      refine x_iconst (v := (0 : Int32)) hG dX9_in_14 (by decide) ?_
      exact x_iret hG hQ dX9_in_15 rfl h
    · have h := h.2 hc2
      refine x_iconst (v := (1 : Int32)) hG dX9_in_10 (by decide) ?_
      refine x_goto (tgt := 15) hG dX9_in_11 (by decide) ?_
      exact x_iret hG hQ dX9_in_15 rfl h
abbrev rm_X9_type : Room := { frames := 1, cells := 0, slots := 0, locals := 22 }
theorem hy_X9_type : yX9_type.cls = RX9 ∧ yX9_type.cls ≠ "java/lang/invoke/MethodHandle" ∧ yX9_type.cls ≠ "java/lang/invoke/VarHandle" ∧ (parseMethodDescriptor yX9_type.desc).map (fun d => d.parameters.length) = some 2 := by decide +kernel
theorem hin_X9_type_X9 : ∀ w ∈ wsX90, w ∈ wsX9_type := fun _ h => List.mem_cons_of_mem _ (List.mem_append_right _ h)
set_option maxRecDepth 100000 in
set_option maxHeartbeats 4000000 in
theorem k_X9_type_37 {G : xG} {post : Int32 → xMem → Prop} (hG : xOk G cX9_type RX9 wsX9_type rm_X9_type) (hQ : xRetI G post .int) : ∀ (M : xMem) (p1 : Int64) (p4 : Int32), xlp3 (b_X9_type_37 post) M p1 p4 → xW G M [some (.ref (xa G 81)), some (.long p1), none, none, some (.int p4)] [] 37 := by
  refine xlp3_W (W := fun M p1 p4 => xW G M [some (.ref (xa G 81)), some (.long p1), none, none, some (.int p4)] [] 37) (fun r37 hr37 => ?_)
  intro M p1 p4 h
  unfold b_X9_type_37 at h
  refine x_iload hG dX9_type_37 rfl ?_
  refine x_if_lt (tgt := 79) hG dX9_type_39 (by decide) (fun hc1 => ?_) (fun hc1 => ?_)
  · have h := h.1 hc1
    refine x_aload_n hG dX9_type_79 rfl rfl ?_
    refine x_get_9_3 hG dX9_type_80 (rfl : kd 81 = 9) hin_X9_type_X9 (List.mem_of_getElem? (i := 2) rfl) ?_
    exact x_iret hG hQ dX9_type_83 rfl h
  · have h := h.2 hc1
    refine x_aload_n hG dX9_type_42 rfl rfl ?_
    refine x_get_9_2 hG dX9_type_43 (rfl : kd 81 = 9) hin_X9_type_X9 (List.mem_of_getElem? (i := 3) rfl) ?_
    refine x_aload_n hG dX9_type_46 rfl rfl ?_
    refine x_get_9_3 hG dX9_type_47 (rfl : kd 81 = 9) hin_X9_type_X9 (List.mem_of_getElem? (i := 2) rfl) ?_
    refine x_lload_n hG dX9_type_50 rfl rfl ?_
    refine x_bipush (v := (8 : Int32)) hG dX9_type_51 (by decide) ?_
    refine x_iload hG dX9_type_53 rfl ?_
    refine x_imul hG dX9_type_55 ?_
    refine x_lshr hG dX9_type_56 ?_
    refine x_ldc2 (v := (255 : Int64)) hG dX9_type_57 (List.mem_of_getElem? (i := 4) rfl) ?_
    refine x_land hG dX9_type_60 ?_
    refine x_l2i hG dX9_type_61 ?_
    obtain ⟨hi2, h⟩ := h
    have h := h _ rfl
    refine x_iastore hG dX9_type_62 (kf_9_2 (rfl : kd 81 = 9)).1 (x_inE (kf_9_2 (rfl : kd 81 = 9)).2 hi2) ?_
    refine x_aload_n hG dX9_type_63 rfl rfl ?_
    refine x_dup hG dX9_type_64 rfl ?_
    refine x_get_9_3 hG dX9_type_65 (rfl : kd 81 = 9) hin_X9_type_X9 (List.mem_of_getElem? (i := 2) rfl) ?_
    refine x_iconst (v := (1 : Int32)) hG dX9_type_68 (by decide) ?_
    refine x_iadd hG dX9_type_69 ?_
    have h := h _ rfl
    refine x_put_9_3 hG dX9_type_70 (rfl : kd 81 = 9) hin_X9_type_X9 (List.mem_of_getElem? (i := 2) rfl) ?_
    refine x_iinc (v := _) hG dX9_type_73 rfl (x_iincE (k := (-1)) (by decide)) (Nat.le_of_ble_eq_true rfl) rfl ?_
    refine x_goto (tgt := 37) hG dX9_type_76 (by decide) ?_
    refine x_keep [true, true, false, false, true] rfl ?_
    exact hr37 _ _ _ h
set_option maxRecDepth 100000 in
set_option maxHeartbeats 4000000 in
theorem c_X9_type {l : Launch} {a : Nat → Nat} {M : xMem} {p1 : Int64} {p3 : Int32} {post : Int32 → xMem → Prop} (ha : xInj a) (h : w_X9_type M p1 p3 post) : ∀ D cs sz, xMetI l yX9_type wsX9_type rm_X9_type D a cs sz M [.ref (a 81), .long p1, .int p3] post := by
  intro D cs sz
  unfold w_X9_type at h
  refine x_metI (ty := .int) [some (.ref (a 81)), some (.long p1), none, some (.int p3), none] (by decide) rfl rfl (Nat.le_of_ble_eq_true rfl) rfl rfl ha D cs sz rfl (fun G e1 e2 hG hQ => ?_)
  subst e1
  subst e2
  refine x_aload_n hG dX9_type_0 rfl rfl ?_
  refine x_iconst (v := (0 : Int32)) hG dX9_type_1 (by decide) ?_
  have h := h _ rfl
  refine x_put_9_0 hG dX9_type_2 (rfl : kd 81 = 9) hin_X9_type_X9 (List.mem_of_getElem? (i := 1) rfl) ?_
  refine x_iload_n hG dX9_type_5 rfl rfl ?_
  refine x_iconst (v := (1 : Int32)) hG dX9_type_6 (by decide) ?_
  refine x_bipush (v := (8 : Int32)) hG dX9_type_7 (by decide) ?_
  refine x_cSI3 hG dX9_type_9 (fun ha => c_X9_in ha h) gX9_type_X9_in rfl ⟨rfl, rfl⟩ hy_X9_in ⟨Nat.le_of_ble_eq_true rfl, Nat.le_of_ble_eq_true rfl⟩ (Nat.le_of_ble_eq_true rfl) (fun z2 M3 h => ?_)
  refine x_if_ne (tgt := 17) hG dX9_type_12 (by decide) (fun hc4 => ?_) (fun hc4 => ?_)
  · have h := h.1 hc4
    refine x_aload_n hG dX9_type_17 rfl rfl ?_
    refine x_get_9_3 hG dX9_type_18 (rfl : kd 81 = 9) hin_X9_type_X9 (List.mem_of_getElem? (i := 2) rfl) ?_
    refine x_iload_n hG dX9_type_21 rfl rfl ?_
    refine x_iadd hG dX9_type_22 ?_
    refine x_sipush (v := (400 : Int32)) hG dX9_type_23 (by decide) ?_
    refine x_icmp_le (tgt := 32) hG dX9_type_26 (by decide) (fun hc5 => ?_) (fun hc5 => ?_)
    · have h := h.1 hc5
      refine x_iload_n hG dX9_type_32 rfl rfl ?_
      refine x_iconst (v := (1 : Int32)) hG dX9_type_33 (by decide) ?_
      refine x_isub hG dX9_type_34 ?_
      refine x_istore hG dX9_type_35 (Nat.le_of_ble_eq_true rfl) rfl ?_
      refine x_keep [true, true, false, false, true] rfl ?_
      exact k_X9_type_37 hG hQ _ _ _ h
    · have h := h.2 hc5
      refine x_bipush (v := (-3 : Int32)) hG dX9_type_29 (by decide) ?_
      exact x_iret hG hQ dX9_type_31 rfl h
  · have h := h.2 hc4
    refine x_iconst (v := (-1 : Int32)) hG dX9_type_15 (by decide) ?_
    exact x_iret hG hQ dX9_type_16 rfl h
abbrev rm_X9_clear : Room := { frames := 0, cells := 0, slots := 0, locals := 0 }
theorem hy_X9_clear : yX9_clear.cls = RX9 ∧ yX9_clear.cls ≠ "java/lang/invoke/MethodHandle" ∧ yX9_clear.cls ≠ "java/lang/invoke/VarHandle" ∧ (parseMethodDescriptor yX9_clear.desc).map (fun d => d.parameters.length) = some 0 := by decide +kernel
theorem hin_X9_clear_X9 : ∀ w ∈ wsX90, w ∈ wsX9_clear := fun _ h => List.mem_cons_of_mem _ (List.mem_append_right _ h)
set_option maxRecDepth 100000 in
set_option maxHeartbeats 4000000 in
theorem c_X9_clear {l : Launch} {a : Nat → Nat} {M : xMem} {post : Int32 → xMem → Prop} (ha : xInj a) (h : w_X9_clear M post) : ∀ D cs sz, xMetI l yX9_clear wsX9_clear rm_X9_clear D a cs sz M [.ref (a 81)] post := by
  intro D cs sz
  unfold w_X9_clear at h
  refine x_metI (ty := .int) [some (.ref (a 81)), none] (by decide) rfl rfl (Nat.le_of_ble_eq_true rfl) rfl rfl ha D cs sz rfl (fun G e1 e2 hG hQ => ?_)
  subst e1
  subst e2
  refine x_aload_n hG dX9_clear_0 rfl rfl ?_
  refine x_iconst (v := (0 : Int32)) hG dX9_clear_1 (by decide) ?_
  have h := h _ rfl
  refine x_put_9_0 hG dX9_clear_2 (rfl : kd 81 = 9) hin_X9_clear_X9 (List.mem_of_getElem? (i := 1) rfl) ?_
  refine x_aload_n hG dX9_clear_5 rfl rfl ?_
  refine x_get_9_3 hG dX9_clear_6 (rfl : kd 81 = 9) hin_X9_clear_X9 (List.mem_of_getElem? (i := 2) rfl) ?_
  refine x_istore_n hG dX9_clear_9 rfl (Nat.le_of_ble_eq_true rfl) rfl ?_
  refine x_aload_n hG dX9_clear_10 rfl rfl ?_
  refine x_iconst (v := (0 : Int32)) hG dX9_clear_11 (by decide) ?_
  have h := h _ rfl
  refine x_put_9_3 hG dX9_clear_12 (rfl : kd 81 = 9) hin_X9_clear_X9 (List.mem_of_getElem? (i := 2) rfl) ?_
  refine x_iload_n hG dX9_clear_15 rfl rfl ?_
  exact x_iret hG hQ dX9_clear_16 rfl h
abbrev rm_X9_byteAt : Room := { frames := 0, cells := 0, slots := 0, locals := 0 }
theorem hy_X9_byteAt : yX9_byteAt.cls = RX9 ∧ yX9_byteAt.cls ≠ "java/lang/invoke/MethodHandle" ∧ yX9_byteAt.cls ≠ "java/lang/invoke/VarHandle" ∧ (parseMethodDescriptor yX9_byteAt.desc).map (fun d => d.parameters.length) = some 1 := by decide +kernel
theorem hin_X9_byteAt_X9 : ∀ w ∈ wsX90, w ∈ wsX9_byteAt := fun _ h => List.mem_cons_of_mem _ (List.mem_append_right _ h)
set_option maxRecDepth 100000 in
set_option maxHeartbeats 4000000 in
theorem c_X9_byteAt {l : Launch} {a : Nat → Nat} {M : xMem} {p1 : Int32} {post : Int32 → xMem → Prop} (ha : xInj a) (h : w_X9_byteAt M p1 post) : ∀ D cs sz, xMetI l yX9_byteAt wsX9_byteAt rm_X9_byteAt D a cs sz M [.ref (a 81), .int p1] post := by
  intro D cs sz
  unfold w_X9_byteAt at h
  refine x_metI (ty := .int) [some (.ref (a 81)), some (.int p1)] (by decide) rfl rfl (Nat.le_of_ble_eq_true rfl) rfl rfl ha D cs sz rfl (fun G e1 e2 hG hQ => ?_)
  subst e1
  subst e2
  refine x_iload_n hG dX9_byteAt_0 rfl rfl ?_
  refine x_aload_n hG dX9_byteAt_1 rfl rfl ?_
  refine x_get_9_3 hG dX9_byteAt_2 (rfl : kd 81 = 9) hin_X9_byteAt_X9 (List.mem_of_getElem? (i := 1) rfl) ?_
  refine x_icmp_ge (tgt := 17) hG dX9_byteAt_5 (by decide) (fun hc1 => ?_) (fun hc1 => ?_)
  · have h := h.1 hc1
    refine x_iconst (v := (-1 : Int32)) hG dX9_byteAt_17 (by decide) ?_
    exact x_iret hG hQ dX9_byteAt_18 rfl h
  · have h := h.2 hc1
    refine x_aload_n hG dX9_byteAt_8 rfl rfl ?_
    refine x_get_9_2 hG dX9_byteAt_9 (rfl : kd 81 = 9) hin_X9_byteAt_X9 (List.mem_of_getElem? (i := 2) rfl) ?_
    refine x_iload_n hG dX9_byteAt_12 rfl rfl ?_
    obtain ⟨hi2, h⟩ := h
    refine x_iaload hG dX9_byteAt_13 (kf_9_2 (rfl : kd 81 = 9)).1 (x_inE (kf_9_2 (rfl : kd 81 = 9)).2 hi2) ?_
    refine x_goto (tgt := 18) hG dX9_byteAt_14 (by decide) ?_
    exact x_iret hG hQ dX9_byteAt_18 rfl h
abbrev rm_X9_add : Room := { frames := 0, cells := 0, slots := 0, locals := 0 }
theorem hy_X9_add : yX9_add.cls ≠ "java/lang/invoke/MethodHandle" ∧ yX9_add.cls ≠ "java/lang/invoke/VarHandle" ∧ (parseMethodDescriptor yX9_add.desc).map (fun d => d.parameters.length) = some 2 := by decide +kernel
set_option maxRecDepth 100000 in
set_option maxHeartbeats 4000000 in
theorem c_X9_add {l : Launch} {a : Nat → Nat} {M : xMem} {p0 : Int64} {p2 : Int32} {post : Int64 → xMem → Prop} (ha : xInj a) (h : w_X9_add M p0 p2 post) : ∀ D cs sz, xMetL l yX9_add wsX9_add rm_X9_add D a cs sz M [.long p0, .int p2] post := by
  intro D cs sz
  unfold w_X9_add at h
  refine x_metL [some (.long p0), none, some (.int p2)] (by decide) rfl rfl (Nat.le_of_ble_eq_true rfl) rfl rfl ha D cs sz rfl (fun G e1 e2 hG hQ => ?_)
  subst e1
  subst e2
  refine x_iload_n hG dX9_add_0 rfl rfl ?_
  refine x_if_ne (tgt := 8) hG dX9_add_1 (by decide) (fun hc1 => ?_) (fun hc1 => ?_)
  · have h := h.1 hc1
    refine x_ldc2 (v := (256 : Int64)) hG dX9_add_8 (List.mem_of_getElem? (i := 1) rfl) ?_
    refine x_lload_n hG dX9_add_11 rfl rfl ?_
    refine x_lmul hG dX9_add_12 ?_
    refine x_iload_n hG dX9_add_13 rfl rfl ?_
    refine x_i2l hG dX9_add_14 ?_
    refine x_ladd hG dX9_add_15 ?_
    exact x_lret hG hQ dX9_add_16 h
  · have h := h.2 hc1
    refine x_lload_n hG dX9_add_4 rfl rfl ?_
    refine x_goto (tgt := 16) hG dX9_add_5 (by decide) ?_
    exact x_lret hG hQ dX9_add_16 h
abbrev rm_X9_named : Room := { frames := 1, cells := 0, slots := 0, locals := 22 }
theorem hy_X9_named : yX9_named.cls ≠ "java/lang/invoke/MethodHandle" ∧ yX9_named.cls ≠ "java/lang/invoke/VarHandle" ∧ (parseMethodDescriptor yX9_named.desc).map (fun d => d.parameters.length) = some 6 := by decide +kernel
set_option maxRecDepth 100000 in
set_option maxHeartbeats 4000000 in
theorem c_X9_named {l : Launch} {a : Nat → Nat} {M : xMem} {p0 : Int32} {p1 : Int32} {p2 : Int32} {p3 : Int32} {p4 : Int32} {p5 : Int32} {post : Int64 → xMem → Prop} (ha : xInj a) (h : w_X9_named M p0 p1 p2 p3 p4 p5 post) : ∀ D cs sz, xMetL l yX9_named wsX9_named rm_X9_named D a cs sz M [.int p0, .int p1, .int p2, .int p3, .int p4, .int p5] post := by
  intro D cs sz
  unfold w_X9_named at h
  refine x_metL [some (.int p0), some (.int p1), some (.int p2), some (.int p3), some (.int p4), some (.int p5)] (by decide) rfl rfl (Nat.le_of_ble_eq_true rfl) rfl rfl ha D cs sz rfl (fun G e1 e2 hG hQ => ?_)
  subst e1
  subst e2
  refine x_lconst (v := (0 : Int64)) hG dX9_named_0 (by decide) ?_
  refine x_iload_n hG dX9_named_1 rfl rfl ?_
  refine x_cSL2 hG dX9_named_2 (fun ha => c_X9_add ha h) gX9_named_X9_add rfl ⟨rfl, rfl⟩ hy_X9_add ⟨Nat.le_of_ble_eq_true rfl, Nat.le_of_ble_eq_true rfl⟩ (Nat.le_of_ble_eq_true rfl) (fun z1 M2 h => ?_)
  refine x_iload_n hG dX9_named_5 rfl rfl ?_
  refine x_cSL2 hG dX9_named_6 (fun ha => c_X9_add ha h) gX9_named_X9_add rfl ⟨rfl, rfl⟩ hy_X9_add ⟨Nat.le_of_ble_eq_true rfl, Nat.le_of_ble_eq_true rfl⟩ (Nat.le_of_ble_eq_true rfl) (fun z3 M4 h => ?_)
  refine x_iload_n hG dX9_named_9 rfl rfl ?_
  refine x_cSL2 hG dX9_named_10 (fun ha => c_X9_add ha h) gX9_named_X9_add rfl ⟨rfl, rfl⟩ hy_X9_add ⟨Nat.le_of_ble_eq_true rfl, Nat.le_of_ble_eq_true rfl⟩ (Nat.le_of_ble_eq_true rfl) (fun z5 M6 h => ?_)
  refine x_iload_n hG dX9_named_13 rfl rfl ?_
  refine x_cSL2 hG dX9_named_14 (fun ha => c_X9_add ha h) gX9_named_X9_add rfl ⟨rfl, rfl⟩ hy_X9_add ⟨Nat.le_of_ble_eq_true rfl, Nat.le_of_ble_eq_true rfl⟩ (Nat.le_of_ble_eq_true rfl) (fun z7 M8 h => ?_)
  refine x_iload hG dX9_named_17 rfl ?_
  refine x_cSL2 hG dX9_named_19 (fun ha => c_X9_add ha h) gX9_named_X9_add rfl ⟨rfl, rfl⟩ hy_X9_add ⟨Nat.le_of_ble_eq_true rfl, Nat.le_of_ble_eq_true rfl⟩ (Nat.le_of_ble_eq_true rfl) (fun z9 M10 h => ?_)
  refine x_iload hG dX9_named_22 rfl ?_
  refine x_cSL2 hG dX9_named_24 (fun ha => c_X9_add ha h) gX9_named_X9_add rfl ⟨rfl, rfl⟩ hy_X9_add ⟨Nat.le_of_ble_eq_true rfl, Nat.le_of_ble_eq_true rfl⟩ (Nat.le_of_ble_eq_true rfl) (fun z11 M12 h => ?_)
  exact x_lret hG hQ dX9_named_27 h
abbrev rm_X9_wordOf : Room := { frames := 2, cells := 0, slots := 0, locals := 47 }
theorem hy_X9_wordOf : yX9_wordOf.cls ≠ "java/lang/invoke/MethodHandle" ∧ yX9_wordOf.cls ≠ "java/lang/invoke/VarHandle" ∧ (parseMethodDescriptor yX9_wordOf.desc).map (fun d => d.parameters.length) = some 1 := by decide +kernel
set_option maxRecDepth 100000 in
set_option maxHeartbeats 4000000 in
theorem k_X9_wordOf_171 {G : xG} {post : Int32 → xMem → Prop} (hG : xOk G cX9_wordOf RX9 wsX9_wordOf rm_X9_wordOf) (hQ : xRetI G post .int) : ∀ (M : xMem) (p0 : Int64) (s0 : Int32), b_X9_wordOf_171 post M p0 s0 → xW G M [some (.long p0), none, none, none] [.int s0] 171 := by
  intro M p0 s0 h
  unfold b_X9_wordOf_171 at h
  refine x_istore_n hG dX9_wordOf_171 rfl (Nat.le_of_ble_eq_true rfl) rfl ?_
  refine x_iload_n hG dX9_wordOf_172 rfl rfl ?_
  refine x_bipush (v := (-9 : Int32)) hG dX9_wordOf_173 (by decide) ?_
  refine x_icmp_eq (tgt := 182) hG dX9_wordOf_175 (by decide) (fun hc1 => ?_) (fun hc1 => ?_)
  · have h := h.1 hc1
    refine x_lload_n hG dX9_wordOf_182 rfl rfl ?_
    refine x_bipush (v := (108 : Int32)) hG dX9_wordOf_183 (by decide) ?_
    refine x_bipush (v := (101 : Int32)) hG dX9_wordOf_185 (by decide) ?_
    refine x_bipush (v := (102 : Int32)) hG dX9_wordOf_187 (by decide) ?_
    refine x_bipush (v := (116 : Int32)) hG dX9_wordOf_189 (by decide) ?_
    refine x_iconst (v := (0 : Int32)) hG dX9_wordOf_191 (by decide) ?_
    refine x_iconst (v := (0 : Int32)) hG dX9_wordOf_192 (by decide) ?_
    refine x_cSL6 hG dX9_wordOf_193 (fun ha => c_X9_named ha h) gX9_wordOf_X9_named rfl ⟨rfl, rfl⟩ hy_X9_named ⟨Nat.le_of_ble_eq_true rfl, Nat.le_of_ble_eq_true rfl⟩ (Nat.le_of_ble_eq_true rfl) (fun z2 M3 h => ?_)
    refine x_lcmp hG dX9_wordOf_196 ?_
    refine x_if_ne (tgt := 205) hG dX9_wordOf_197 (by decide) (fun hc4 => ?_) (fun hc4 => ?_)
    · have h := h.1 hc4
      refine x_lload_n hG dX9_wordOf_205 rfl rfl ?_
      refine x_bipush (v := (100 : Int32)) hG dX9_wordOf_206 (by decide) ?_
      refine x_bipush (v := (111 : Int32)) hG dX9_wordOf_208 (by decide) ?_
      refine x_bipush (v := (119 : Int32)) hG dX9_wordOf_210 (by decide) ?_
      refine x_bipush (v := (110 : Int32)) hG dX9_wordOf_212 (by decide) ?_
      refine x_iconst (v := (0 : Int32)) hG dX9_wordOf_214 (by decide) ?_
      refine x_iconst (v := (0 : Int32)) hG dX9_wordOf_215 (by decide) ?_
      refine x_cSL6 hG dX9_wordOf_216 (fun ha => c_X9_named ha h) gX9_wordOf_X9_named rfl ⟨rfl, rfl⟩ hy_X9_named ⟨Nat.le_of_ble_eq_true rfl, Nat.le_of_ble_eq_true rfl⟩ (Nat.le_of_ble_eq_true rfl) (fun z5 M6 h => ?_)
      refine x_lcmp hG dX9_wordOf_219 ?_
      refine x_if_ne (tgt := 228) hG dX9_wordOf_220 (by decide) (fun hc7 => ?_) (fun hc7 => ?_)
      · have h := h.1 hc7
        refine x_lload_n hG dX9_wordOf_228 rfl rfl ?_
        refine x_bipush (v := (117 : Int32)) hG dX9_wordOf_229 (by decide) ?_
        refine x_bipush (v := (112 : Int32)) hG dX9_wordOf_231 (by decide) ?_
        refine x_iconst (v := (0 : Int32)) hG dX9_wordOf_233 (by decide) ?_
        refine x_iconst (v := (0 : Int32)) hG dX9_wordOf_234 (by decide) ?_
        refine x_iconst (v := (0 : Int32)) hG dX9_wordOf_235 (by decide) ?_
        refine x_iconst (v := (0 : Int32)) hG dX9_wordOf_236 (by decide) ?_
        refine x_cSL6 hG dX9_wordOf_237 (fun ha => c_X9_named ha h) gX9_wordOf_X9_named rfl ⟨rfl, rfl⟩ hy_X9_named ⟨Nat.le_of_ble_eq_true rfl, Nat.le_of_ble_eq_true rfl⟩ (Nat.le_of_ble_eq_true rfl) (fun z8 M9 h => ?_)
        refine x_lcmp hG dX9_wordOf_240 ?_
        refine x_if_ne (tgt := 249) hG dX9_wordOf_241 (by decide) (fun hc10 => ?_) (fun hc10 => ?_)
        · have h := h.1 hc10
          refine x_bipush (v := (-9 : Int32)) hG dX9_wordOf_249 (by decide) ?_
          exact x_iret hG hQ dX9_wordOf_251 rfl h
        · have h := h.2 hc10
          refine x_bipush (v := (9 : Int32)) hG dX9_wordOf_244 (by decide) ?_
          refine x_goto (tgt := 251) hG dX9_wordOf_246 (by decide) ?_
          exact x_iret hG hQ dX9_wordOf_251 rfl h
      · have h := h.2 hc7
        refine x_bipush (v := (8 : Int32)) hG dX9_wordOf_223 (by decide) ?_
        refine x_goto (tgt := 251) hG dX9_wordOf_225 (by decide) ?_
        exact x_iret hG hQ dX9_wordOf_251 rfl h
    · have h := h.2 hc4
      refine x_bipush (v := (7 : Int32)) hG dX9_wordOf_200 (by decide) ?_
      refine x_goto (tgt := 251) hG dX9_wordOf_202 (by decide) ?_
      exact x_iret hG hQ dX9_wordOf_251 rfl h
  · have h := h.2 hc1
    refine x_iload_n hG dX9_wordOf_178 rfl rfl ?_
    refine x_goto (tgt := 251) hG dX9_wordOf_179 (by decide) ?_
    exact x_iret hG hQ dX9_wordOf_251 rfl h
set_option maxRecDepth 100000 in
set_option maxHeartbeats 4000000 in
theorem k_X9_wordOf_90 {G : xG} {post : Int32 → xMem → Prop} (hG : xOk G cX9_wordOf RX9 wsX9_wordOf rm_X9_wordOf) (hQ : xRetI G post .int) : ∀ (M : xMem) (p0 : Int64) (s0 : Int32), b_X9_wordOf_90 post M p0 s0 → xW G M [some (.long p0), none, none, none] [.int s0] 90 := by
  intro M p0 s0 h
  unfold b_X9_wordOf_90 at h
  refine x_istore_n hG dX9_wordOf_90 rfl (Nat.le_of_ble_eq_true rfl) rfl ?_
  refine x_iload_n hG dX9_wordOf_91 rfl rfl ?_
  refine x_bipush (v := (-9 : Int32)) hG dX9_wordOf_92 (by decide) ?_
  refine x_icmp_eq (tgt := 99) hG dX9_wordOf_94 (by decide) (fun hc1 => ?_) (fun hc1 => ?_)
  · have h := h.1 hc1
    refine x_lload_n hG dX9_wordOf_99 rfl rfl ?_
    refine x_bipush (v := (119 : Int32)) hG dX9_wordOf_100 (by decide) ?_
    refine x_bipush (v := (111 : Int32)) hG dX9_wordOf_102 (by decide) ?_
    refine x_bipush (v := (114 : Int32)) hG dX9_wordOf_104 (by decide) ?_
    refine x_bipush (v := (107 : Int32)) hG dX9_wordOf_106 (by decide) ?_
    refine x_bipush (v := (101 : Int32)) hG dX9_wordOf_108 (by decide) ?_
    refine x_bipush (v := (114 : Int32)) hG dX9_wordOf_110 (by decide) ?_
    refine x_cSL6 hG dX9_wordOf_112 (fun ha => c_X9_named ha h) gX9_wordOf_X9_named rfl ⟨rfl, rfl⟩ hy_X9_named ⟨Nat.le_of_ble_eq_true rfl, Nat.le_of_ble_eq_true rfl⟩ (Nat.le_of_ble_eq_true rfl) (fun z2 M3 h => ?_)
    refine x_lcmp hG dX9_wordOf_115 ?_
    refine x_if_ne (tgt := 123) hG dX9_wordOf_116 (by decide) (fun hc4 => ?_) (fun hc4 => ?_)
    · have h := h.1 hc4
      refine x_lload_n hG dX9_wordOf_123 rfl rfl ?_
      refine x_bipush (v := (100 : Int32)) hG dX9_wordOf_124 (by decide) ?_
      refine x_bipush (v := (101 : Int32)) hG dX9_wordOf_126 (by decide) ?_
      refine x_bipush (v := (101 : Int32)) hG dX9_wordOf_128 (by decide) ?_
      refine x_bipush (v := (100 : Int32)) hG dX9_wordOf_130 (by decide) ?_
      refine x_iconst (v := (0 : Int32)) hG dX9_wordOf_132 (by decide) ?_
      refine x_iconst (v := (0 : Int32)) hG dX9_wordOf_133 (by decide) ?_
      refine x_cSL6 hG dX9_wordOf_134 (fun ha => c_X9_named ha h) gX9_wordOf_X9_named rfl ⟨rfl, rfl⟩ hy_X9_named ⟨Nat.le_of_ble_eq_true rfl, Nat.le_of_ble_eq_true rfl⟩ (Nat.le_of_ble_eq_true rfl) (fun z5 M6 h => ?_)
      refine x_lcmp hG dX9_wordOf_137 ?_
      refine x_if_ne (tgt := 145) hG dX9_wordOf_138 (by decide) (fun hc7 => ?_) (fun hc7 => ?_)
      · have h := h.1 hc7
        refine x_lload_n hG dX9_wordOf_145 rfl rfl ?_
        refine x_bipush (v := (114 : Int32)) hG dX9_wordOf_146 (by decide) ?_
        refine x_bipush (v := (105 : Int32)) hG dX9_wordOf_148 (by decide) ?_
        refine x_bipush (v := (103 : Int32)) hG dX9_wordOf_150 (by decide) ?_
        refine x_bipush (v := (104 : Int32)) hG dX9_wordOf_152 (by decide) ?_
        refine x_bipush (v := (116 : Int32)) hG dX9_wordOf_154 (by decide) ?_
        refine x_iconst (v := (0 : Int32)) hG dX9_wordOf_156 (by decide) ?_
        refine x_cSL6 hG dX9_wordOf_157 (fun ha => c_X9_named ha h) gX9_wordOf_X9_named rfl ⟨rfl, rfl⟩ hy_X9_named ⟨Nat.le_of_ble_eq_true rfl, Nat.le_of_ble_eq_true rfl⟩ (Nat.le_of_ble_eq_true rfl) (fun z8 M9 h => ?_)
        refine x_lcmp hG dX9_wordOf_160 ?_
        refine x_if_ne (tgt := 169) hG dX9_wordOf_161 (by decide) (fun hc10 => ?_) (fun hc10 => ?_)
        · have h := h.1 hc10
          refine x_bipush (v := (-9 : Int32)) hG dX9_wordOf_169 (by decide) ?_
          refine x_keep [true, false, false, false] rfl ?_
          exact k_X9_wordOf_171 hG hQ _ _ _ h
        · have h := h.2 hc10
          refine x_bipush (v := (6 : Int32)) hG dX9_wordOf_164 (by decide) ?_
          refine x_goto (tgt := 171) hG dX9_wordOf_166 (by decide) ?_
          refine x_keep [true, false, false, false] rfl ?_
          exact k_X9_wordOf_171 hG hQ _ _ _ h
      · have h := h.2 hc7
        refine x_iconst (v := (5 : Int32)) hG dX9_wordOf_141 (by decide) ?_
        refine x_goto (tgt := 171) hG dX9_wordOf_142 (by decide) ?_
        refine x_keep [true, false, false, false] rfl ?_
        exact k_X9_wordOf_171 hG hQ _ _ _ h
    · have h := h.2 hc4
      refine x_iconst (v := (4 : Int32)) hG dX9_wordOf_119 (by decide) ?_
      refine x_goto (tgt := 171) hG dX9_wordOf_120 (by decide) ?_
      refine x_keep [true, false, false, false] rfl ?_
      exact k_X9_wordOf_171 hG hQ _ _ _ h
  · have h := h.2 hc1
    refine x_iload_n hG dX9_wordOf_97 rfl rfl ?_
    exact x_iret hG hQ dX9_wordOf_98 rfl h
set_option maxRecDepth 100000 in
set_option maxHeartbeats 4000000 in
theorem c_X9_wordOf {l : Launch} {a : Nat → Nat} {M : xMem} {p0 : Int64} {post : Int32 → xMem → Prop} (ha : xInj a) (h : w_X9_wordOf M p0 post) : ∀ D cs sz, xMetI l yX9_wordOf wsX9_wordOf rm_X9_wordOf D a cs sz M [.long p0] post := by
  intro D cs sz
  unfold w_X9_wordOf at h
  refine x_metI (ty := .int) [some (.long p0), none, none, none] (by decide) rfl rfl (Nat.le_of_ble_eq_true rfl) rfl rfl ha D cs sz rfl (fun G e1 e2 hG hQ => ?_)
  subst e1
  subst e2
  refine x_lload_n hG dX9_wordOf_0 rfl rfl ?_
  refine x_bipush (v := (104 : Int32)) hG dX9_wordOf_1 (by decide) ?_
  refine x_bipush (v := (105 : Int32)) hG dX9_wordOf_3 (by decide) ?_
  refine x_bipush (v := (108 : Int32)) hG dX9_wordOf_5 (by decide) ?_
  refine x_bipush (v := (108 : Int32)) hG dX9_wordOf_7 (by decide) ?_
  refine x_iconst (v := (0 : Int32)) hG dX9_wordOf_9 (by decide) ?_
  refine x_iconst (v := (0 : Int32)) hG dX9_wordOf_10 (by decide) ?_
  refine x_cSL6 hG dX9_wordOf_11 (fun ha => c_X9_named ha h) gX9_wordOf_X9_named rfl ⟨rfl, rfl⟩ hy_X9_named ⟨Nat.le_of_ble_eq_true rfl, Nat.le_of_ble_eq_true rfl⟩ (Nat.le_of_ble_eq_true rfl) (fun z1 M2 h => ?_)
  refine x_lcmp hG dX9_wordOf_14 ?_
  refine x_if_ne (tgt := 22) hG dX9_wordOf_15 (by decide) (fun hc3 => ?_) (fun hc3 => ?_)
  · have h := h.1 hc3
    refine x_lload_n hG dX9_wordOf_22 rfl rfl ?_
    refine x_bipush (v := (119 : Int32)) hG dX9_wordOf_23 (by decide) ?_
    refine x_bipush (v := (97 : Int32)) hG dX9_wordOf_25 (by decide) ?_
    refine x_bipush (v := (108 : Int32)) hG dX9_wordOf_27 (by decide) ?_
    refine x_bipush (v := (108 : Int32)) hG dX9_wordOf_29 (by decide) ?_
    refine x_iconst (v := (0 : Int32)) hG dX9_wordOf_31 (by decide) ?_
    refine x_iconst (v := (0 : Int32)) hG dX9_wordOf_32 (by decide) ?_
    refine x_cSL6 hG dX9_wordOf_33 (fun ha => c_X9_named ha h) gX9_wordOf_X9_named rfl ⟨rfl, rfl⟩ hy_X9_named ⟨Nat.le_of_ble_eq_true rfl, Nat.le_of_ble_eq_true rfl⟩ (Nat.le_of_ble_eq_true rfl) (fun z4 M5 h => ?_)
    refine x_lcmp hG dX9_wordOf_36 ?_
    refine x_if_ne (tgt := 44) hG dX9_wordOf_37 (by decide) (fun hc6 => ?_) (fun hc6 => ?_)
    · have h := h.1 hc6
      refine x_lload_n hG dX9_wordOf_44 rfl rfl ?_
      refine x_bipush (v := (102 : Int32)) hG dX9_wordOf_45 (by decide) ?_
      refine x_bipush (v := (101 : Int32)) hG dX9_wordOf_47 (by decide) ?_
      refine x_bipush (v := (108 : Int32)) hG dX9_wordOf_49 (by decide) ?_
      refine x_bipush (v := (116 : Int32)) hG dX9_wordOf_51 (by decide) ?_
      refine x_iconst (v := (0 : Int32)) hG dX9_wordOf_53 (by decide) ?_
      refine x_iconst (v := (0 : Int32)) hG dX9_wordOf_54 (by decide) ?_
      refine x_cSL6 hG dX9_wordOf_55 (fun ha => c_X9_named ha h) gX9_wordOf_X9_named rfl ⟨rfl, rfl⟩ hy_X9_named ⟨Nat.le_of_ble_eq_true rfl, Nat.le_of_ble_eq_true rfl⟩ (Nat.le_of_ble_eq_true rfl) (fun z7 M8 h => ?_)
      refine x_lcmp hG dX9_wordOf_58 ?_
      refine x_if_ne (tgt := 66) hG dX9_wordOf_59 (by decide) (fun hc9 => ?_) (fun hc9 => ?_)
      · have h := h.1 hc9
        refine x_lload_n hG dX9_wordOf_66 rfl rfl ?_
        refine x_bipush (v := (119 : Int32)) hG dX9_wordOf_67 (by decide) ?_
        refine x_bipush (v := (105 : Int32)) hG dX9_wordOf_69 (by decide) ?_
        refine x_bipush (v := (110 : Int32)) hG dX9_wordOf_71 (by decide) ?_
        refine x_bipush (v := (100 : Int32)) hG dX9_wordOf_73 (by decide) ?_
        refine x_iconst (v := (0 : Int32)) hG dX9_wordOf_75 (by decide) ?_
        refine x_iconst (v := (0 : Int32)) hG dX9_wordOf_76 (by decide) ?_
        refine x_cSL6 hG dX9_wordOf_77 (fun ha => c_X9_named ha h) gX9_wordOf_X9_named rfl ⟨rfl, rfl⟩ hy_X9_named ⟨Nat.le_of_ble_eq_true rfl, Nat.le_of_ble_eq_true rfl⟩ (Nat.le_of_ble_eq_true rfl) (fun z10 M11 h => ?_)
        refine x_lcmp hG dX9_wordOf_80 ?_
        refine x_if_ne (tgt := 88) hG dX9_wordOf_81 (by decide) (fun hc12 => ?_) (fun hc12 => ?_)
        · have h := h.1 hc12
          refine x_bipush (v := (-9 : Int32)) hG dX9_wordOf_88 (by decide) ?_
          refine x_keep [true, false, false, false] rfl ?_
          exact k_X9_wordOf_90 hG hQ _ _ _ h
        · have h := h.2 hc12
          refine x_iconst (v := (3 : Int32)) hG dX9_wordOf_84 (by decide) ?_
          refine x_goto (tgt := 90) hG dX9_wordOf_85 (by decide) ?_
          refine x_keep [true, false, false, false] rfl ?_
          exact k_X9_wordOf_90 hG hQ _ _ _ h
      · have h := h.2 hc9
        refine x_iconst (v := (2 : Int32)) hG dX9_wordOf_62 (by decide) ?_
        refine x_goto (tgt := 90) hG dX9_wordOf_63 (by decide) ?_
        refine x_keep [true, false, false, false] rfl ?_
        exact k_X9_wordOf_90 hG hQ _ _ _ h
    · have h := h.2 hc6
      refine x_iconst (v := (1 : Int32)) hG dX9_wordOf_40 (by decide) ?_
      refine x_goto (tgt := 90) hG dX9_wordOf_41 (by decide) ?_
      refine x_keep [true, false, false, false] rfl ?_
      exact k_X9_wordOf_90 hG hQ _ _ _ h
  · have h := h.2 hc3
    refine x_iconst (v := (0 : Int32)) hG dX9_wordOf_18 (by decide) ?_
    refine x_goto (tgt := 90) hG dX9_wordOf_19 (by decide) ?_
    refine x_keep [true, false, false, false] rfl ?_
    exact k_X9_wordOf_90 hG hQ _ _ _ h
abbrev rm_X9_advances : Room := { frames := 3, cells := 0, slots := 0, locals := 70 }
theorem hy_X9_advances : yX9_advances.cls = RX9 ∧ yX9_advances.cls ≠ "java/lang/invoke/MethodHandle" ∧ yX9_advances.cls ≠ "java/lang/invoke/VarHandle" ∧ (parseMethodDescriptor yX9_advances.desc).map (fun d => d.parameters.length) = some 0 := by decide +kernel
theorem hin_X9_advances_X9 : ∀ w ∈ wsX90, w ∈ wsX9_advances := fun _ h => List.mem_cons_of_mem _ (List.mem_append_right _ h)
set_option maxRecDepth 100000 in
set_option maxHeartbeats 4000000 in
theorem k_X9_advances_307 {G : xG} {post : xMem → Prop} (hG : xOk G cX9_advances RX9 wsX9_advances rm_X9_advances) (hQ : xRetV G post) : ∀ (M : xMem) (s1 : Int32), b_X9_advances_307 post M s1 → xW G M [none, none, none, none] [.int s1, .ref (xa G 81)] 307 := by
  intro M s1 h
  unfold b_X9_advances_307 at h
  have h := h _ rfl
  refine x_put_9_5 hG dX9_advances_307 (rfl : kd 81 = 9) hin_X9_advances_X9 (List.mem_of_getElem? (i := 3) rfl) ?_
  exact x_vret hG hQ dX9_advances_310 h
set_option maxRecDepth 100000 in
set_option maxHeartbeats 4000000 in
theorem k_X9_advances_279 {G : xG} {post : xMem → Prop} (hG : xOk G cX9_advances RX9 wsX9_advances rm_X9_advances) (hQ : xRetV G post) : ∀ (M : xMem) (s1 : Int32), b_X9_advances_279 post M s1 → xW G M [none, none, none, none] [.int s1, .ref (xa G 81)] 279 := by
  intro M s1 h
  unfold b_X9_advances_279 at h
  have h := h _ rfl
  refine x_put_9_5 hG dX9_advances_279 (rfl : kd 81 = 9) hin_X9_advances_X9 (List.mem_of_getElem? (i := 3) rfl) ?_
  refine x_goto (tgt := 310) hG dX9_advances_282 (by decide) ?_
  exact x_vret hG hQ dX9_advances_310 h
set_option maxRecDepth 100000 in
set_option maxHeartbeats 4000000 in
theorem k_X9_advances_274 {G : xG} {post : xMem → Prop} (hG : xOk G cX9_advances RX9 wsX9_advances rm_X9_advances) (hQ : xRetV G post) : ∀ (M : xMem), b_X9_advances_274 post M → xW G M [none, none, none, none] [.ref (xa G 81)] 274 := by
  intro M h
  unfold b_X9_advances_274 at h
  refine x_iconst (v := (4 : Int32)) hG dX9_advances_274 (by decide) ?_
  refine x_goto (tgt := 279) hG dX9_advances_275 (by decide) ?_
  refine x_keep [false, false, false, false] rfl ?_
  exact k_X9_advances_279 hG hQ _ _ h
set_option maxRecDepth 100000 in
set_option maxHeartbeats 4000000 in
theorem k_X9_advances_278 {G : xG} {post : xMem → Prop} (hG : xOk G cX9_advances RX9 wsX9_advances rm_X9_advances) (hQ : xRetV G post) : ∀ (M : xMem), b_X9_advances_278 post M → xW G M [none, none, none, none] [.ref (xa G 81)] 278 := by
  intro M h
  unfold b_X9_advances_278 at h
  refine x_iconst (v := (2 : Int32)) hG dX9_advances_278 (by decide) ?_
  refine x_keep [false, false, false, false] rfl ?_
  exact k_X9_advances_279 hG hQ _ _ h
set_option maxRecDepth 100000 in
set_option maxHeartbeats 4000000 in
theorem k_X9_advances_229 {G : xG} {post : xMem → Prop} (hG : xOk G cX9_advances RX9 wsX9_advances rm_X9_advances) (hQ : xRetV G post) {r175 : xMem → Int32 → Prop} (hr175 : ∀ (M : xMem) (p1 : Int32), r175 M p1 → xW G M [some (.ref (xa G 81)), some (.int p1), none, none] [] 175) : ∀ (M : xMem) (p1 : Int32) (s1 : Int32), b_X9_advances_229 post r175 M p1 s1 → xW G M [some (.ref (xa G 81)), some (.int p1), none, none] [.int s1, .ref (xa G 81)] 229 := by
  intro M p1 s1 h
  unfold b_X9_advances_229 at h
  have h := h _ rfl
  refine x_put_9_7 hG dX9_advances_229 (rfl : kd 81 = 9) hin_X9_advances_X9 (List.mem_of_getElem? (i := 4) rfl) ?_
  refine x_aload_n hG dX9_advances_232 rfl rfl ?_
  refine x_dup hG dX9_advances_233 rfl ?_
  refine x_get_9_4 hG dX9_advances_234 (rfl : kd 81 = 9) hin_X9_advances_X9 (List.mem_of_getElem? (i := 1) rfl) ?_
  refine x_iconst (v := (1 : Int32)) hG dX9_advances_237 (by decide) ?_
  refine x_iadd hG dX9_advances_238 ?_
  have h := h _ rfl
  refine x_put_9_4 hG dX9_advances_239 (rfl : kd 81 = 9) hin_X9_advances_X9 (List.mem_of_getElem? (i := 1) rfl) ?_
  refine x_goto (tgt := 175) hG dX9_advances_242 (by decide) ?_
  refine x_keep [true, true, false, false] rfl ?_
  exact hr175 _ _ h
set_option maxRecDepth 100000 in
set_option maxHeartbeats 4000000 in
theorem k_X9_advances_175 {G : xG} {post : xMem → Prop} (hG : xOk G cX9_advances RX9 wsX9_advances rm_X9_advances) (hQ : xRetV G post) : ∀ (M : xMem) (p1 : Int32), xlp2 (b_X9_advances_175 post) M p1 → xW G M [some (.ref (xa G 81)), some (.int p1), none, none] [] 175 := by
  refine xlp2_W (W := fun M p1 => xW G M [some (.ref (xa G 81)), some (.int p1), none, none] [] 175) (fun r175 hr175 => ?_)
  intro M p1 h
  unfold b_X9_advances_175 at h
  refine x_aload_n hG dX9_advances_175 rfl rfl ?_
  refine x_aload_n hG dX9_advances_176 rfl rfl ?_
  refine x_get_9_4 hG dX9_advances_177 (rfl : kd 81 = 9) hin_X9_advances_X9 (List.mem_of_getElem? (i := 1) rfl) ?_
  refine x_cVI1 hG dX9_advances_180 (fun ha => c_X9_byteAt ha h) gX9_advances_X9_byteAt rfl ⟨rfl, rfl⟩ hy_X9_byteAt ⟨Nat.le_of_ble_eq_true rfl, Nat.le_of_ble_eq_true rfl⟩ (kd_lt (rfl : kd 81 = 9) (by decide)) (fun _ => xc_9 (rfl : kd 81 = 9)) rfl (Nat.le_of_ble_eq_true rfl) (fun z1 M2 h => ?_)
  refine x_bipush (v := (48 : Int32)) hG dX9_advances_183 (by decide) ?_
  refine x_bipush (v := (57 : Int32)) hG dX9_advances_185 (by decide) ?_
  refine x_cSI3 hG dX9_advances_187 (fun ha => c_X9_in ha h) gX9_advances_X9_in rfl ⟨rfl, rfl⟩ hy_X9_in ⟨Nat.le_of_ble_eq_true rfl, Nat.le_of_ble_eq_true rfl⟩ (Nat.le_of_ble_eq_true rfl) (fun z3 M4 h => ?_)
  refine x_if_eq (tgt := 245) hG dX9_advances_190 (by decide) (fun hc5 => ?_) (fun hc5 => ?_)
  · have h := h.1 hc5
    refine x_aload_n hG dX9_advances_245 rfl rfl ?_
    refine x_aload_n hG dX9_advances_246 rfl rfl ?_
    refine x_get_9_7 hG dX9_advances_247 (rfl : kd 81 = 9) hin_X9_advances_X9 (List.mem_of_getElem? (i := 4) rfl) ?_
    refine x_bipush (v := (99 : Int32)) hG dX9_advances_250 (by decide) ?_
    refine x_icmp_gt (tgt := 274) hG dX9_advances_252 (by decide) (fun hc6 => ?_) (fun hc6 => ?_)
    · have h := h.1 hc6
      refine x_keep [false, false, false, false] rfl ?_
      exact k_X9_advances_274 hG hQ _ h
    · have h := h.2 hc6
      refine x_iload_n hG dX9_advances_255 rfl rfl ?_
      refine x_bipush (v := (48 : Int32)) hG dX9_advances_256 (by decide) ?_
      refine x_icmp_ne (tgt := 278) hG dX9_advances_258 (by decide) (fun hc7 => ?_) (fun hc7 => ?_)
      · have h := h.1 hc7
        refine x_keep [false, false, false, false] rfl ?_
        exact k_X9_advances_278 hG hQ _ h
      · have h := h.2 hc7
        refine x_aload_n hG dX9_advances_261 rfl rfl ?_
        refine x_get_9_4 hG dX9_advances_262 (rfl : kd 81 = 9) hin_X9_advances_X9 (List.mem_of_getElem? (i := 1) rfl) ?_
        refine x_aload_n hG dX9_advances_265 rfl rfl ?_
        refine x_get_9_6 hG dX9_advances_266 (rfl : kd 81 = 9) hin_X9_advances_X9 (List.mem_of_getElem? (i := 2) rfl) ?_
        refine x_isub hG dX9_advances_269 ?_
        refine x_iconst (v := (1 : Int32)) hG dX9_advances_270 (by decide) ?_
        refine x_icmp_le (tgt := 278) hG dX9_advances_271 (by decide) (fun hc8 => ?_) (fun hc8 => ?_)
        · have h := h.1 hc8
          refine x_keep [false, false, false, false] rfl ?_
          exact k_X9_advances_278 hG hQ _ h
        · have h := h.2 hc8
          refine x_keep [false, false, false, false] rfl ?_
          exact k_X9_advances_274 hG hQ _ h
  · have h := h.2 hc5
    refine x_aload_n hG dX9_advances_193 rfl rfl ?_
    refine x_aload_n hG dX9_advances_194 rfl rfl ?_
    refine x_get_9_7 hG dX9_advances_195 (rfl : kd 81 = 9) hin_X9_advances_X9 (List.mem_of_getElem? (i := 4) rfl) ?_
    refine x_bipush (v := (99 : Int32)) hG dX9_advances_198 (by decide) ?_
    refine x_icmp_le (tgt := 210) hG dX9_advances_200 (by decide) (fun hc9 => ?_) (fun hc9 => ?_)
    · have h := h.1 hc9
      refine x_bipush (v := (10 : Int32)) hG dX9_advances_210 (by decide) ?_
      refine x_aload_n hG dX9_advances_212 rfl rfl ?_
      refine x_get_9_7 hG dX9_advances_213 (rfl : kd 81 = 9) hin_X9_advances_X9 (List.mem_of_getElem? (i := 4) rfl) ?_
      refine x_imul hG dX9_advances_216 ?_
      refine x_aload_n hG dX9_advances_217 rfl rfl ?_
      refine x_aload_n hG dX9_advances_218 rfl rfl ?_
      refine x_get_9_4 hG dX9_advances_219 (rfl : kd 81 = 9) hin_X9_advances_X9 (List.mem_of_getElem? (i := 1) rfl) ?_
      refine x_cVI1 hG dX9_advances_222 (fun ha => c_X9_byteAt ha h) gX9_advances_X9_byteAt rfl ⟨rfl, rfl⟩ hy_X9_byteAt ⟨Nat.le_of_ble_eq_true rfl, Nat.le_of_ble_eq_true rfl⟩ (kd_lt (rfl : kd 81 = 9) (by decide)) (fun _ => xc_9 (rfl : kd 81 = 9)) rfl (Nat.le_of_ble_eq_true rfl) (fun z10 M11 h => ?_)
      refine x_iadd hG dX9_advances_225 ?_
      refine x_bipush (v := (48 : Int32)) hG dX9_advances_226 (by decide) ?_
      refine x_isub hG dX9_advances_228 ?_
      refine x_keep [true, true, false, false] rfl ?_
      exact k_X9_advances_229 hG hQ hr175 _ _ _ h
    · have h := h.2 hc9
      refine x_aload_n hG dX9_advances_203 rfl rfl ?_
      refine x_get_9_7 hG dX9_advances_204 (rfl : kd 81 = 9) hin_X9_advances_X9 (List.mem_of_getElem? (i := 4) rfl) ?_
      refine x_goto (tgt := 229) hG dX9_advances_207 (by decide) ?_
      refine x_keep [true, true, false, false] rfl ?_
      exact k_X9_advances_229 hG hQ hr175 _ _ _ h
set_option maxRecDepth 100000 in
set_option maxHeartbeats 4000000 in
theorem k_X9_advances_153 {G : xG} {post : xMem → Prop} (hG : xOk G cX9_advances RX9 wsX9_advances rm_X9_advances) (hQ : xRetV G post) : ∀ (M : xMem) (s1 : Int32), b_X9_advances_153 post M s1 → xW G M [none, none, none, none] [.int s1, .ref (xa G 81)] 153 := by
  intro M s1 h
  unfold b_X9_advances_153 at h
  have h := h _ rfl
  refine x_put_9_5 hG dX9_advances_153 (rfl : kd 81 = 9) hin_X9_advances_X9 (List.mem_of_getElem? (i := 3) rfl) ?_
  refine x_goto (tgt := 310) hG dX9_advances_156 (by decide) ?_
  exact x_vret hG hQ dX9_advances_310 h
set_option maxRecDepth 100000 in
set_option maxHeartbeats 4000000 in
theorem k_X9_advances_116 {G : xG} {post : xMem → Prop} (hG : xOk G cX9_advances RX9 wsX9_advances rm_X9_advances) (hQ : xRetV G post) {r68 : xMem → Int64 → Prop} (hr68 : ∀ (M : xMem) (p2 : Int64), r68 M p2 → xW G M [some (.ref (xa G 81)), none, some (.long p2), none] [] 68) : ∀ (M : xMem) (s0 : Int64), b_X9_advances_116 post r68 M s0 → xW G M [some (.ref (xa G 81)), none, none, none] [.long s0] 116 := by
  intro M s0 h
  unfold b_X9_advances_116 at h
  refine x_lstore_n hG dX9_advances_116 rfl (Nat.le_of_ble_eq_true rfl) rfl ?_
  refine x_aload_n hG dX9_advances_117 rfl rfl ?_
  refine x_dup hG dX9_advances_118 rfl ?_
  refine x_get_9_4 hG dX9_advances_119 (rfl : kd 81 = 9) hin_X9_advances_X9 (List.mem_of_getElem? (i := 1) rfl) ?_
  refine x_iconst (v := (1 : Int32)) hG dX9_advances_122 (by decide) ?_
  refine x_iadd hG dX9_advances_123 ?_
  have h := h _ rfl
  refine x_put_9_4 hG dX9_advances_124 (rfl : kd 81 = 9) hin_X9_advances_X9 (List.mem_of_getElem? (i := 1) rfl) ?_
  refine x_goto (tgt := 68) hG dX9_advances_127 (by decide) ?_
  refine x_keep [true, false, true, false] rfl ?_
  exact hr68 _ _ h
set_option maxRecDepth 100000 in
set_option maxHeartbeats 4000000 in
theorem k_X9_advances_68 {G : xG} {post : xMem → Prop} (hG : xOk G cX9_advances RX9 wsX9_advances rm_X9_advances) (hQ : xRetV G post) : ∀ (M : xMem) (p2 : Int64), xlp2 (b_X9_advances_68 post) M p2 → xW G M [some (.ref (xa G 81)), none, some (.long p2), none] [] 68 := by
  refine xlp2_W (W := fun M p2 => xW G M [some (.ref (xa G 81)), none, some (.long p2), none] [] 68) (fun r68 hr68 => ?_)
  intro M p2 h
  unfold b_X9_advances_68 at h
  refine x_aload_n hG dX9_advances_68 rfl rfl ?_
  refine x_aload_n hG dX9_advances_69 rfl rfl ?_
  refine x_get_9_4 hG dX9_advances_70 (rfl : kd 81 = 9) hin_X9_advances_X9 (List.mem_of_getElem? (i := 1) rfl) ?_
  refine x_cVI1 hG dX9_advances_73 (fun ha => c_X9_byteAt ha h) gX9_advances_X9_byteAt rfl ⟨rfl, rfl⟩ hy_X9_byteAt ⟨Nat.le_of_ble_eq_true rfl, Nat.le_of_ble_eq_true rfl⟩ (kd_lt (rfl : kd 81 = 9) (by decide)) (fun _ => xc_9 (rfl : kd 81 = 9)) rfl (Nat.le_of_ble_eq_true rfl) (fun z1 M2 h => ?_)
  refine x_bipush (v := (97 : Int32)) hG dX9_advances_76 (by decide) ?_
  refine x_bipush (v := (122 : Int32)) hG dX9_advances_78 (by decide) ?_
  refine x_cSI3 hG dX9_advances_80 (fun ha => c_X9_in ha h) gX9_advances_X9_in rfl ⟨rfl, rfl⟩ hy_X9_in ⟨Nat.le_of_ble_eq_true rfl, Nat.le_of_ble_eq_true rfl⟩ (Nat.le_of_ble_eq_true rfl) (fun z3 M4 h => ?_)
  refine x_if_eq (tgt := 130) hG dX9_advances_83 (by decide) (fun hc5 => ?_) (fun hc5 => ?_)
  · have h := h.1 hc5
    refine x_aload_n hG dX9_advances_130 rfl rfl ?_
    refine x_lload_n hG dX9_advances_131 rfl rfl ?_
    refine x_cSI1 hG dX9_advances_132 (fun ha => c_X9_wordOf ha h) gX9_advances_X9_wordOf rfl ⟨rfl, rfl⟩ hy_X9_wordOf ⟨Nat.le_of_ble_eq_true rfl, Nat.le_of_ble_eq_true rfl⟩ (Nat.le_of_ble_eq_true rfl) (fun z6 M7 h => ?_)
    have h := h _ rfl
    refine x_put_9_7 hG dX9_advances_135 (rfl : kd 81 = 9) hin_X9_advances_X9 (List.mem_of_getElem? (i := 4) rfl) ?_
    refine x_aload_n hG dX9_advances_138 rfl rfl ?_
    refine x_aload_n hG dX9_advances_139 rfl rfl ?_
    refine x_get_9_7 hG dX9_advances_140 (rfl : kd 81 = 9) hin_X9_advances_X9 (List.mem_of_getElem? (i := 4) rfl) ?_
    refine x_bipush (v := (-9 : Int32)) hG dX9_advances_143 (by decide) ?_
    refine x_icmp_ne (tgt := 152) hG dX9_advances_145 (by decide) (fun hc9 => ?_) (fun hc9 => ?_)
    · have h := h.1 hc9
      refine x_iconst (v := (1 : Int32)) hG dX9_advances_152 (by decide) ?_
      refine x_keep [false, false, false, false] rfl ?_
      exact k_X9_advances_153 hG hQ _ _ h
    · have h := h.2 hc9
      refine x_iconst (v := (4 : Int32)) hG dX9_advances_148 (by decide) ?_
      refine x_goto (tgt := 153) hG dX9_advances_149 (by decide) ?_
      refine x_keep [false, false, false, false] rfl ?_
      exact k_X9_advances_153 hG hQ _ _ h
  · have h := h.2 hc5
    refine x_aload_n hG dX9_advances_86 rfl rfl ?_
    refine x_get_9_4 hG dX9_advances_87 (rfl : kd 81 = 9) hin_X9_advances_X9 (List.mem_of_getElem? (i := 1) rfl) ?_
    refine x_aload_n hG dX9_advances_90 rfl rfl ?_
    refine x_get_9_6 hG dX9_advances_91 (rfl : kd 81 = 9) hin_X9_advances_X9 (List.mem_of_getElem? (i := 2) rfl) ?_
    refine x_isub hG dX9_advances_94 ?_
    refine x_bipush (v := (7 : Int32)) hG dX9_advances_95 (by decide) ?_
    refine x_icmp_ge (tgt := 115) hG dX9_advances_97 (by decide) (fun hc10 => ?_) (fun hc10 => ?_)
    · have h := h.1 hc10
      refine x_lload_n hG dX9_advances_115 rfl rfl ?_
      refine x_keep [true, false, false, false] rfl ?_
      exact k_X9_advances_116 hG hQ hr68 _ _ h
    · have h := h.2 hc10
      refine x_lload_n hG dX9_advances_100 rfl rfl ?_
      refine x_aload_n hG dX9_advances_101 rfl rfl ?_
      refine x_aload_n hG dX9_advances_102 rfl rfl ?_
      refine x_get_9_4 hG dX9_advances_103 (rfl : kd 81 = 9) hin_X9_advances_X9 (List.mem_of_getElem? (i := 1) rfl) ?_
      refine x_cVI1 hG dX9_advances_106 (fun ha => c_X9_byteAt ha h) gX9_advances_X9_byteAt rfl ⟨rfl, rfl⟩ hy_X9_byteAt ⟨Nat.le_of_ble_eq_true rfl, Nat.le_of_ble_eq_true rfl⟩ (kd_lt (rfl : kd 81 = 9) (by decide)) (fun _ => xc_9 (rfl : kd 81 = 9)) rfl (Nat.le_of_ble_eq_true rfl) (fun z11 M12 h => ?_)
      refine x_cSL2 hG dX9_advances_109 (fun ha => c_X9_add ha h) gX9_advances_X9_add rfl ⟨rfl, rfl⟩ hy_X9_add ⟨Nat.le_of_ble_eq_true rfl, Nat.le_of_ble_eq_true rfl⟩ (Nat.le_of_ble_eq_true rfl) (fun z13 M14 h => ?_)
      refine x_goto (tgt := 116) hG dX9_advances_112 (by decide) ?_
      refine x_keep [true, false, false, false] rfl ?_
      exact k_X9_advances_116 hG hQ hr68 _ _ h
set_option maxRecDepth 100000 in
set_option maxHeartbeats 4000000 in
theorem k_X9_advances_0 {G : xG} {post : xMem → Prop} (hG : xOk G cX9_advances RX9 wsX9_advances rm_X9_advances) (hQ : xRetV G post) : ∀ (M : xMem), xlp1 (b_X9_advances_0 post) M → xW G M [some (.ref (xa G 81)), none, none, none] [] 0 := by
  refine xlp1_W (W := fun M => xW G M [some (.ref (xa G 81)), none, none, none] [] 0) (fun r0 hr0 => ?_)
  intro M h
  unfold b_X9_advances_0 at h
  refine x_aload_n hG dX9_advances_0 rfl rfl ?_
  refine x_aload_n hG dX9_advances_1 rfl rfl ?_
  refine x_get_9_4 hG dX9_advances_2 (rfl : kd 81 = 9) hin_X9_advances_X9 (List.mem_of_getElem? (i := 1) rfl) ?_
  refine x_cVI1 hG dX9_advances_5 (fun ha => c_X9_byteAt ha h) gX9_advances_X9_byteAt rfl ⟨rfl, rfl⟩ hy_X9_byteAt ⟨Nat.le_of_ble_eq_true rfl, Nat.le_of_ble_eq_true rfl⟩ (kd_lt (rfl : kd 81 = 9) (by decide)) (fun _ => xc_9 (rfl : kd 81 = 9)) rfl (Nat.le_of_ble_eq_true rfl) (fun z1 M2 h => ?_)
  refine x_bipush (v := (32 : Int32)) hG dX9_advances_8 (by decide) ?_
  refine x_icmp_ne (tgt := 26) hG dX9_advances_10 (by decide) (fun hc3 => ?_) (fun hc3 => ?_)
  · have h := h.1 hc3
    refine x_aload_n hG dX9_advances_26 rfl rfl ?_
    refine x_aload_n hG dX9_advances_27 rfl rfl ?_
    refine x_get_9_4 hG dX9_advances_28 (rfl : kd 81 = 9) hin_X9_advances_X9 (List.mem_of_getElem? (i := 1) rfl) ?_
    have h := h _ rfl
    refine x_put_9_6 hG dX9_advances_31 (rfl : kd 81 = 9) hin_X9_advances_X9 (List.mem_of_getElem? (i := 2) rfl) ?_
    refine x_aload_n hG dX9_advances_34 rfl rfl ?_
    refine x_aload_n hG dX9_advances_35 rfl rfl ?_
    refine x_get_9_4 hG dX9_advances_36 (rfl : kd 81 = 9) hin_X9_advances_X9 (List.mem_of_getElem? (i := 1) rfl) ?_
    refine x_cVI1 hG dX9_advances_39 (fun ha => c_X9_byteAt ha h) gX9_advances_X9_byteAt rfl ⟨rfl, rfl⟩ hy_X9_byteAt ⟨Nat.le_of_ble_eq_true rfl, Nat.le_of_ble_eq_true rfl⟩ (kd_lt (rfl : kd 81 = 9) (by decide)) (fun _ => xc_9 (rfl : kd 81 = 9)) rfl (Nat.le_of_ble_eq_true rfl) (fun z5 M6 h => ?_)
    refine x_istore_n hG dX9_advances_42 rfl (Nat.le_of_ble_eq_true rfl) rfl ?_
    refine x_iload_n hG dX9_advances_43 rfl rfl ?_
    refine x_if_ge (tgt := 55) hG dX9_advances_44 (by decide) (fun hc7 => ?_) (fun hc7 => ?_)
    · have h := h.1 hc7
      refine x_iload_n hG dX9_advances_55 rfl rfl ?_
      refine x_bipush (v := (97 : Int32)) hG dX9_advances_56 (by decide) ?_
      refine x_bipush (v := (122 : Int32)) hG dX9_advances_58 (by decide) ?_
      refine x_cSI3 hG dX9_advances_60 (fun ha => c_X9_in ha h) gX9_advances_X9_in rfl ⟨rfl, rfl⟩ hy_X9_in ⟨Nat.le_of_ble_eq_true rfl, Nat.le_of_ble_eq_true rfl⟩ (Nat.le_of_ble_eq_true rfl) (fun z8 M9 h => ?_)
      refine x_if_eq (tgt := 159) hG dX9_advances_63 (by decide) (fun hc10 => ?_) (fun hc10 => ?_)
      · have h := h.1 hc10
        refine x_iload_n hG dX9_advances_159 rfl rfl ?_
        refine x_bipush (v := (48 : Int32)) hG dX9_advances_160 (by decide) ?_
        refine x_bipush (v := (57 : Int32)) hG dX9_advances_162 (by decide) ?_
        refine x_cSI3 hG dX9_advances_164 (fun ha => c_X9_in ha h) gX9_advances_X9_in rfl ⟨rfl, rfl⟩ hy_X9_in ⟨Nat.le_of_ble_eq_true rfl, Nat.le_of_ble_eq_true rfl⟩ (Nat.le_of_ble_eq_true rfl) (fun z11 M12 h => ?_)
        refine x_if_eq (tgt := 285) hG dX9_advances_167 (by decide) (fun hc13 => ?_) (fun hc13 => ?_)
        · have h := h.1 hc13
          refine x_aload_n hG dX9_advances_285 rfl rfl ?_
          refine x_dup hG dX9_advances_286 rfl ?_
          refine x_get_9_4 hG dX9_advances_287 (rfl : kd 81 = 9) hin_X9_advances_X9 (List.mem_of_getElem? (i := 1) rfl) ?_
          refine x_iconst (v := (1 : Int32)) hG dX9_advances_290 (by decide) ?_
          refine x_iadd hG dX9_advances_291 ?_
          have h := h _ rfl
          refine x_put_9_4 hG dX9_advances_292 (rfl : kd 81 = 9) hin_X9_advances_X9 (List.mem_of_getElem? (i := 1) rfl) ?_
          refine x_aload_n hG dX9_advances_295 rfl rfl ?_
          refine x_iload_n hG dX9_advances_296 rfl rfl ?_
          refine x_bipush (v := (59 : Int32)) hG dX9_advances_297 (by decide) ?_
          refine x_icmp_ne (tgt := 306) hG dX9_advances_299 (by decide) (fun hc15 => ?_) (fun hc15 => ?_)
          · have h := h.1 hc15
            refine x_iconst (v := (4 : Int32)) hG dX9_advances_306 (by decide) ?_
            refine x_keep [false, false, false, false] rfl ?_
            exact k_X9_advances_307 hG hQ _ _ h
          · have h := h.2 hc15
            refine x_iconst (v := (3 : Int32)) hG dX9_advances_302 (by decide) ?_
            refine x_goto (tgt := 307) hG dX9_advances_303 (by decide) ?_
            refine x_keep [false, false, false, false] rfl ?_
            exact k_X9_advances_307 hG hQ _ _ h
        · have h := h.2 hc13
          refine x_aload_n hG dX9_advances_170 rfl rfl ?_
          refine x_iconst (v := (0 : Int32)) hG dX9_advances_171 (by decide) ?_
          have h := h _ rfl
          refine x_put_9_7 hG dX9_advances_172 (rfl : kd 81 = 9) hin_X9_advances_X9 (List.mem_of_getElem? (i := 4) rfl) ?_
          refine x_keep [true, true, false, false] rfl ?_
          exact k_X9_advances_175 hG hQ _ _ h
      · have h := h.2 hc10
        refine x_lconst (v := (0 : Int64)) hG dX9_advances_66 (by decide) ?_
        refine x_lstore_n hG dX9_advances_67 rfl (Nat.le_of_ble_eq_true rfl) rfl ?_
        refine x_keep [true, false, true, false] rfl ?_
        exact k_X9_advances_68 hG hQ _ _ h
    · have h := h.2 hc7
      refine x_aload_n hG dX9_advances_47 rfl rfl ?_
      refine x_iconst (v := (0 : Int32)) hG dX9_advances_48 (by decide) ?_
      have h := h _ rfl
      refine x_put_9_5 hG dX9_advances_49 (rfl : kd 81 = 9) hin_X9_advances_X9 (List.mem_of_getElem? (i := 3) rfl) ?_
      refine x_goto (tgt := 310) hG dX9_advances_52 (by decide) ?_
      exact x_vret hG hQ dX9_advances_310 h
  · have h := h.2 hc3
    refine x_aload_n hG dX9_advances_13 rfl rfl ?_
    refine x_dup hG dX9_advances_14 rfl ?_
    refine x_get_9_4 hG dX9_advances_15 (rfl : kd 81 = 9) hin_X9_advances_X9 (List.mem_of_getElem? (i := 1) rfl) ?_
    refine x_iconst (v := (1 : Int32)) hG dX9_advances_18 (by decide) ?_
    refine x_iadd hG dX9_advances_19 ?_
    have h := h _ rfl
    refine x_put_9_4 hG dX9_advances_20 (rfl : kd 81 = 9) hin_X9_advances_X9 (List.mem_of_getElem? (i := 1) rfl) ?_
    refine x_goto (tgt := 0) hG dX9_advances_23 (by decide) ?_
    refine x_keep [true, false, false, false] rfl ?_
    exact hr0 _ h
set_option maxRecDepth 100000 in
set_option maxHeartbeats 4000000 in
theorem c_X9_advances {l : Launch} {a : Nat → Nat} {M : xMem} {post : xMem → Prop} (ha : xInj a) (h : w_X9_advances M post) : ∀ D cs sz, xMetV l yX9_advances wsX9_advances rm_X9_advances D a cs sz M [.ref (a 81)] post := by
  intro D cs sz
  unfold w_X9_advances at h
  refine x_metV [some (.ref (a 81)), none, none, none] (by decide) rfl rfl (Nat.le_of_ble_eq_true rfl) rfl rfl ha D cs sz rfl (fun G e1 e2 hG hQ => ?_)
  subst e1
  subst e2
  refine x_keep [true, false, false, false] rfl ?_
  exact k_X9_advances_0 hG hQ _ h
abbrev rm_X9_isWell : Room := { frames := 0, cells := 0, slots := 0, locals := 0 }
theorem hy_X9_isWell : yX9_isWell.cls = RX9 ∧ yX9_isWell.cls ≠ "java/lang/invoke/MethodHandle" ∧ yX9_isWell.cls ≠ "java/lang/invoke/VarHandle" ∧ (parseMethodDescriptor yX9_isWell.desc).map (fun d => d.parameters.length) = some 0 := by decide +kernel
theorem hin_X9_isWell_X9 : ∀ w ∈ wsX90, w ∈ wsX9_isWell := fun _ h => List.mem_cons_of_mem _ (List.mem_append_right _ h)
set_option maxRecDepth 100000 in
set_option maxHeartbeats 4000000 in
theorem c_X9_isWell {l : Launch} {a : Nat → Nat} {M : xMem} {post : Int32 → xMem → Prop} (ha : xInj a) (h : w_X9_isWell M post) : ∀ D cs sz, xMetI l yX9_isWell wsX9_isWell rm_X9_isWell D a cs sz M [.ref (a 81)] post := by
  intro D cs sz
  unfold w_X9_isWell at h
  refine x_metI (ty := .boolean) [some (.ref (a 81))] (by decide) rfl rfl (Nat.le_of_ble_eq_true rfl) rfl rfl ha D cs sz rfl (fun G e1 e2 hG hQ => ?_)
  subst e1
  subst e2
  refine x_aload_n hG dX9_isWell_0 rfl rfl ?_
  refine x_get_9_8 hG dX9_isWell_1 (rfl : kd 81 = 9) hin_X9_isWell_X9 (List.mem_of_getElem? (i := 1) rfl) ?_
  refine x_if_ge (tgt := 11) hG dX9_isWell_4 (by decide) (fun hc1 => ?_) (fun hc1 => ?_)
  · have h := h.1 hc1
    refine x_iconst (v := (0 : Int32)) hG dX9_isWell_11 (by decide) ?_
    exact x_iret hG hQ dX9_isWell_12 rfl h
  · have h := h.2 hc1
    refine x_iconst (v := (1 : Int32)) hG dX9_isWell_7 (by decide) ?_
    refine x_goto (tgt := 12) hG dX9_isWell_8 (by decide) ?_
    exact x_iret hG hQ dX9_isWell_12 rfl h
abbrev rm_X9_takes : Room := { frames := 4, cells := 0, slots := 0, locals := 93 }
theorem hy_X9_takes : yX9_takes.cls = RX9 ∧ yX9_takes.cls ≠ "java/lang/invoke/MethodHandle" ∧ yX9_takes.cls ≠ "java/lang/invoke/VarHandle" ∧ (parseMethodDescriptor yX9_takes.desc).map (fun d => d.parameters.length) = some 1 := by decide +kernel
theorem hin_X9_takes_X9 : ∀ w ∈ wsX90, w ∈ wsX9_takes := fun _ h => List.mem_cons_of_mem _ (List.mem_append_right _ h)
set_option maxRecDepth 100000 in
set_option maxHeartbeats 4000000 in
theorem c_X9_takes {l : Launch} {a : Nat → Nat} {M : xMem} {p1 : Int32} {post : Int32 → xMem → Prop} (ha : xInj a) (h : w_X9_takes M p1 post) : ∀ D cs sz, xMetI l yX9_takes wsX9_takes rm_X9_takes D a cs sz M [.ref (a 81), .int p1] post := by
  intro D cs sz
  unfold w_X9_takes at h
  refine x_metI (ty := .int) [some (.ref (a 81)), some (.int p1), none] (by decide) rfl rfl (Nat.le_of_ble_eq_true rfl) rfl rfl ha D cs sz rfl (fun G e1 e2 hG hQ => ?_)
  subst e1
  subst e2
  refine x_aload_n hG dX9_takes_0 rfl rfl ?_
  refine x_cVI0 hG dX9_takes_1 (fun ha => c_X9_isWell ha h) gX9_takes_X9_isWell rfl ⟨rfl, rfl⟩ hy_X9_isWell ⟨Nat.le_of_ble_eq_true rfl, Nat.le_of_ble_eq_true rfl⟩ (kd_lt (rfl : kd 81 = 9) (by decide)) (fun _ => xc_9 (rfl : kd 81 = 9)) rfl (Nat.le_of_ble_eq_true rfl) (fun z1 M2 h => ?_)
  refine x_if_ne (tgt := 9) hG dX9_takes_4 (by decide) (fun hc3 => ?_) (fun hc3 => ?_)
  · have h := h.1 hc3
    refine x_iload_n hG dX9_takes_9 rfl rfl ?_
    refine x_if_ne (tgt := 23) hG dX9_takes_10 (by decide) (fun hc4 => ?_) (fun hc4 => ?_)
    · have h := h.1 hc4
      refine x_aload_n hG dX9_takes_23 rfl rfl ?_
      refine x_get_9_7 hG dX9_takes_24 (rfl : kd 81 = 9) hin_X9_takes_X9 (List.mem_of_getElem? (i := 3) rfl) ?_
      refine x_istore_n hG dX9_takes_27 rfl (Nat.le_of_ble_eq_true rfl) rfl ?_
      refine x_aload_n hG dX9_takes_28 rfl rfl ?_
      refine x_cVV0 hG dX9_takes_29 (fun ha => c_X9_advances ha h) gX9_takes_X9_advances rfl ⟨rfl, rfl⟩ hy_X9_advances ⟨Nat.le_of_ble_eq_true rfl, Nat.le_of_ble_eq_true rfl⟩ (kd_lt (rfl : kd 81 = 9) (by decide)) (fun _ => xc_9 (rfl : kd 81 = 9)) rfl (Nat.le_of_ble_eq_true rfl) (fun M6 h => ?_)
      refine x_iload_n hG dX9_takes_32 rfl rfl ?_
      exact x_iret hG hQ dX9_takes_33 rfl h
    · have h := h.2 hc4
      refine x_aload_n hG dX9_takes_13 rfl rfl ?_
      refine x_aload_n hG dX9_takes_14 rfl rfl ?_
      refine x_get_9_6 hG dX9_takes_15 (rfl : kd 81 = 9) hin_X9_takes_X9 (List.mem_of_getElem? (i := 1) rfl) ?_
      have h := h _ rfl
      refine x_put_9_8 hG dX9_takes_18 (rfl : kd 81 = 9) hin_X9_takes_X9 (List.mem_of_getElem? (i := 2) rfl) ?_
      refine x_iconst (v := (0 : Int32)) hG dX9_takes_21 (by decide) ?_
      exact x_iret hG hQ dX9_takes_22 rfl h
  · have h := h.2 hc3
    refine x_iconst (v := (0 : Int32)) hG dX9_takes_7 (by decide) ?_
    exact x_iret hG hQ dX9_takes_8 rfl h
abbrev rm_X9_number : Room := { frames := 5, cells := 0, slots := 0, locals := 115 }
theorem hy_X9_number : yX9_number.cls = RX9 ∧ yX9_number.cls ≠ "java/lang/invoke/MethodHandle" ∧ yX9_number.cls ≠ "java/lang/invoke/VarHandle" ∧ (parseMethodDescriptor yX9_number.desc).map (fun d => d.parameters.length) = some 2 := by decide +kernel
theorem hin_X9_number_X9 : ∀ w ∈ wsX90, w ∈ wsX9_number := fun _ h => List.mem_cons_of_mem _ (List.mem_append_right _ h)
set_option maxRecDepth 100000 in
set_option maxHeartbeats 4000000 in
theorem k_X9_number_26 {G : xG} {post : Int32 → xMem → Prop} (hG : xOk G cX9_number RX9 wsX9_number rm_X9_number) (hQ : xRetI G post .int) : ∀ (M : xMem) (s1 : Int32), b_X9_number_26 post M s1 → xW G M [none, none, none] [.int s1, .ref (xa G 81)] 26 := by
  intro M s1 h
  unfold b_X9_number_26 at h
  refine x_cVI1 hG dX9_number_26 (fun ha => c_X9_takes ha h) gX9_number_X9_takes rfl ⟨rfl, rfl⟩ hy_X9_takes ⟨Nat.le_of_ble_eq_true rfl, Nat.le_of_ble_eq_true rfl⟩ (kd_lt (rfl : kd 81 = 9) (by decide)) (fun _ => xc_9 (rfl : kd 81 = 9)) rfl (Nat.le_of_ble_eq_true rfl) (fun z1 M2 h => ?_)
  exact x_iret hG hQ dX9_number_29 rfl h
set_option maxRecDepth 100000 in
set_option maxHeartbeats 4000000 in
theorem k_X9_number_25 {G : xG} {post : Int32 → xMem → Prop} (hG : xOk G cX9_number RX9 wsX9_number rm_X9_number) (hQ : xRetI G post .int) : ∀ (M : xMem), b_X9_number_25 post M → xW G M [none, none, none] [.ref (xa G 81)] 25 := by
  intro M h
  unfold b_X9_number_25 at h
  refine x_iconst (v := (0 : Int32)) hG dX9_number_25 (by decide) ?_
  refine x_keep [false, false, false] rfl ?_
  exact k_X9_number_26 hG hQ _ _ h
set_option maxRecDepth 100000 in
set_option maxHeartbeats 4000000 in
theorem c_X9_number {l : Launch} {a : Nat → Nat} {M : xMem} {p1 : Int32} {p2 : Int32} {post : Int32 → xMem → Prop} (ha : xInj a) (h : w_X9_number M p1 p2 post) : ∀ D cs sz, xMetI l yX9_number wsX9_number rm_X9_number D a cs sz M [.ref (a 81), .int p1, .int p2] post := by
  intro D cs sz
  unfold w_X9_number at h
  refine x_metI (ty := .int) [some (.ref (a 81)), some (.int p1), some (.int p2)] (by decide) rfl rfl (Nat.le_of_ble_eq_true rfl) rfl rfl ha D cs sz rfl (fun G e1 e2 hG hQ => ?_)
  subst e1
  subst e2
  refine x_aload_n hG dX9_number_0 rfl rfl ?_
  refine x_aload_n hG dX9_number_1 rfl rfl ?_
  refine x_get_9_5 hG dX9_number_2 (rfl : kd 81 = 9) hin_X9_number_X9 (List.mem_of_getElem? (i := 1) rfl) ?_
  refine x_iconst (v := (2 : Int32)) hG dX9_number_5 (by decide) ?_
  refine x_icmp_ne (tgt := 25) hG dX9_number_6 (by decide) (fun hc1 => ?_) (fun hc1 => ?_)
  · have h := h.1 hc1
    refine x_keep [false, false, false] rfl ?_
    exact k_X9_number_25 hG hQ _ h
  · have h := h.2 hc1
    refine x_aload_n hG dX9_number_9 rfl rfl ?_
    refine x_get_9_7 hG dX9_number_10 (rfl : kd 81 = 9) hin_X9_number_X9 (List.mem_of_getElem? (i := 2) rfl) ?_
    refine x_iload_n hG dX9_number_13 rfl rfl ?_
    refine x_iload_n hG dX9_number_14 rfl rfl ?_
    refine x_cSI3 hG dX9_number_15 (fun ha => c_X9_in ha h) gX9_number_X9_in rfl ⟨rfl, rfl⟩ hy_X9_in ⟨Nat.le_of_ble_eq_true rfl, Nat.le_of_ble_eq_true rfl⟩ (Nat.le_of_ble_eq_true rfl) (fun z2 M3 h => ?_)
    refine x_if_eq (tgt := 25) hG dX9_number_18 (by decide) (fun hc4 => ?_) (fun hc4 => ?_)
    · have h := h.1 hc4
      refine x_keep [false, false, false] rfl ?_
      exact k_X9_number_25 hG hQ _ h
    · have h := h.2 hc4
      refine x_iconst (v := (1 : Int32)) hG dX9_number_21 (by decide) ?_
      refine x_goto (tgt := 26) hG dX9_number_22 (by decide) ?_
      refine x_keep [false, false, false] rfl ?_
      exact k_X9_number_26 hG hQ _ _ h
abbrev rm_X9_lesser : Room := { frames := 0, cells := 0, slots := 0, locals := 0 }
theorem hy_X9_lesser : yX9_lesser.cls ≠ "java/lang/invoke/MethodHandle" ∧ yX9_lesser.cls ≠ "java/lang/invoke/VarHandle" ∧ (parseMethodDescriptor yX9_lesser.desc).map (fun d => d.parameters.length) = some 2 := by decide +kernel
set_option maxRecDepth 100000 in
set_option maxHeartbeats 4000000 in
theorem c_X9_lesser {l : Launch} {a : Nat → Nat} {M : xMem} {p0 : Int32} {p1 : Int32} {post : Int32 → xMem → Prop} (ha : xInj a) (h : w_X9_lesser M p0 p1 post) : ∀ D cs sz, xMetI l yX9_lesser wsX9_lesser rm_X9_lesser D a cs sz M [.int p0, .int p1] post := by
  intro D cs sz
  unfold w_X9_lesser at h
  refine x_metI (ty := .int) [some (.int p0), some (.int p1)] (by decide) rfl rfl (Nat.le_of_ble_eq_true rfl) rfl rfl ha D cs sz rfl (fun G e1 e2 hG hQ => ?_)
  subst e1
  subst e2
  refine x_iload_n hG dX9_lesser_0 rfl rfl ?_
  refine x_iload_n hG dX9_lesser_1 rfl rfl ?_
  refine x_icmp_ge (tgt := 9) hG dX9_lesser_2 (by decide) (fun hc1 => ?_) (fun hc1 => ?_)
  · have h := h.1 hc1
    refine x_iload_n hG dX9_lesser_9 rfl rfl ?_
    exact x_iret hG hQ dX9_lesser_10 rfl h
  · have h := h.2 hc1
    refine x_iload_n hG dX9_lesser_5 rfl rfl ?_
    refine x_goto (tgt := 10) hG dX9_lesser_6 (by decide) ?_
    exact x_iret hG hQ dX9_lesser_10 rfl h
abbrev rm_X9_areBeside : Room := { frames := 1, cells := 0, slots := 0, locals := 21 }
theorem hy_X9_areBeside : yX9_areBeside.cls ≠ "java/lang/invoke/MethodHandle" ∧ yX9_areBeside.cls ≠ "java/lang/invoke/VarHandle" ∧ (parseMethodDescriptor yX9_areBeside.desc).map (fun d => d.parameters.length) = some 3 := by decide +kernel
set_option maxRecDepth 100000 in
set_option maxHeartbeats 4000000 in
theorem k_X9_areBeside_36 {G : xG} {post : Int32 → xMem → Prop} (hG : xOk G cX9_areBeside RX9 wsX9_areBeside rm_X9_areBeside) (hQ : xRetI G post .boolean) : ∀ (M : xMem), b_X9_areBeside_36 post M → xW G M [none, none, none, none, none] [] 36 := by
  intro M h
  unfold b_X9_areBeside_36 at h
  refine x_iconst (v := (1 : Int32)) hG dX9_areBeside_36 (by decide) ?_
  refine x_goto (tgt := 41) hG dX9_areBeside_37 (by decide) ?_
  exact x_iret hG hQ dX9_areBeside_41 rfl h
set_option maxRecDepth 100000 in
set_option maxHeartbeats 4000000 in
theorem c_X9_areBeside {l : Launch} {a : Nat → Nat} {M : xMem} {p0 : Int32} {p1 : Int32} {p2 : Int32} {post : Int32 → xMem → Prop} (ha : xInj a) (h : w_X9_areBeside M p0 p1 p2 post) : ∀ D cs sz, xMetI l yX9_areBeside wsX9_areBeside rm_X9_areBeside D a cs sz M [.int p0, .int p1, .int p2] post := by
  intro D cs sz
  unfold w_X9_areBeside at h
  refine x_metI (ty := .boolean) [some (.int p0), some (.int p1), some (.int p2), none, none] (by decide) rfl rfl (Nat.le_of_ble_eq_true rfl) rfl rfl ha D cs sz rfl (fun G e1 e2 hG hQ => ?_)
  subst e1
  subst e2
  refine x_iload_n hG dX9_areBeside_0 rfl rfl ?_
  refine x_iload_n hG dX9_areBeside_1 rfl rfl ?_
  refine x_cSI2 hG dX9_areBeside_2 (fun ha => c_X9_lesser ha h) gX9_areBeside_X9_lesser rfl ⟨rfl, rfl⟩ hy_X9_lesser ⟨Nat.le_of_ble_eq_true rfl, Nat.le_of_ble_eq_true rfl⟩ (Nat.le_of_ble_eq_true rfl) (fun z1 M2 h => ?_)
  refine x_istore_n hG dX9_areBeside_5 rfl (Nat.le_of_ble_eq_true rfl) rfl ?_
  refine x_iload_n hG dX9_areBeside_6 rfl rfl ?_
  refine x_iload_n hG dX9_areBeside_7 rfl rfl ?_
  refine x_iadd hG dX9_areBeside_8 ?_
  refine x_iconst (v := (2 : Int32)) hG dX9_areBeside_9 (by decide) ?_
  refine x_iload_n hG dX9_areBeside_10 rfl rfl ?_
  refine x_imul hG dX9_areBeside_11 ?_
  refine x_isub hG dX9_areBeside_12 ?_
  refine x_istore hG dX9_areBeside_13 (Nat.le_of_ble_eq_true rfl) rfl ?_
  refine x_iload hG dX9_areBeside_15 rfl ?_
  refine x_iload_n hG dX9_areBeside_17 rfl rfl ?_
  refine x_icmp_eq (tgt := 36) hG dX9_areBeside_18 (by decide) (fun hc3 => ?_) (fun hc3 => ?_)
  · have h := h.1 hc3
    refine x_keep [false, false, false, false, false] rfl ?_
    exact k_X9_areBeside_36 hG hQ _ h
  · have h := h.2 hc3
    refine x_iload hG dX9_areBeside_21 rfl ?_
    refine x_iconst (v := (1 : Int32)) hG dX9_areBeside_23 (by decide) ?_
    refine x_icmp_ne (tgt := 40) hG dX9_areBeside_24 (by decide) (fun hc4 => ?_) (fun hc4 => ?_)
    · have h := h.1 hc4
      refine x_iconst (v := (0 : Int32)) hG dX9_areBeside_40 (by decide) ?_
      exact x_iret hG hQ dX9_areBeside_41 rfl h
    · have h := h.2 hc4
      refine x_iload_n hG dX9_areBeside_27 rfl rfl ?_
      refine x_iload_n hG dX9_areBeside_28 rfl rfl ?_
      obtain ⟨hz5, h⟩ := h
      refine x_irem hG dX9_areBeside_29 hz5 ?_
      refine x_iload_n hG dX9_areBeside_30 rfl rfl ?_
      refine x_iconst (v := (1 : Int32)) hG dX9_areBeside_31 (by decide) ?_
      refine x_isub hG dX9_areBeside_32 ?_
      refine x_icmp_ge (tgt := 40) hG dX9_areBeside_33 (by decide) (fun hc6 => ?_) (fun hc6 => ?_)
      · have h := h.1 hc6
        refine x_iconst (v := (0 : Int32)) hG dX9_areBeside_40 (by decide) ?_
        exact x_iret hG hQ dX9_areBeside_41 rfl h
      · have h := h.2 hc6
        refine x_keep [false, false, false, false, false] rfl ?_
        exact k_X9_areBeside_36 hG hQ _ h
abbrev rm_X9_spotOf : Room := { frames := 1, cells := 0, slots := 0, locals := 21 }
theorem hy_X9_spotOf : yX9_spotOf.cls ≠ "java/lang/invoke/MethodHandle" ∧ yX9_spotOf.cls ≠ "java/lang/invoke/VarHandle" ∧ (parseMethodDescriptor yX9_spotOf.desc).map (fun d => d.parameters.length) = some 4 := by decide +kernel
set_option maxRecDepth 100000 in
set_option maxHeartbeats 4000000 in
theorem k_X9_spotOf_33 {G : xG} {post : Int32 → xMem → Prop} (hG : xOk G cX9_spotOf RX9 wsX9_spotOf rm_X9_spotOf) (hQ : xRetI G post .int) : ∀ (M : xMem) (s0 : Int32), b_X9_spotOf_33 post M s0 → xW G M [none, none, none, none, none] [.int s0] 33 := by
  intro M s0 h
  unfold b_X9_spotOf_33 at h
  refine x_bipush (v := (48 : Int32)) hG dX9_spotOf_33 (by decide) ?_
  refine x_goto (tgt := 39) hG dX9_spotOf_35 (by decide) ?_
  refine x_iadd hG dX9_spotOf_39 ?_
  exact x_iret hG hQ dX9_spotOf_40 rfl h
set_option maxRecDepth 100000 in
set_option maxHeartbeats 4000000 in
theorem k_X9_spotOf_28 {G : xG} {post : Int32 → xMem → Prop} (hG : xOk G cX9_spotOf RX9 wsX9_spotOf rm_X9_spotOf) (hQ : xRetI G post .int) : ∀ (M : xMem) (p2 : Int32) (s0 : Int32), b_X9_spotOf_28 post M p2 s0 → xW G M [none, none, some (.int p2), none, none] [.int s0] 28 := by
  intro M p2 s0 h
  unfold b_X9_spotOf_28 at h
  refine x_iload_n hG dX9_spotOf_28 rfl rfl ?_
  refine x_iconst (v := (1 : Int32)) hG dX9_spotOf_29 (by decide) ?_
  refine x_icmp_ne (tgt := 38) hG dX9_spotOf_30 (by decide) (fun hc1 => ?_) (fun hc1 => ?_)
  · have h := h.1 hc1
    refine x_iconst (v := (0 : Int32)) hG dX9_spotOf_38 (by decide) ?_
    refine x_iadd hG dX9_spotOf_39 ?_
    exact x_iret hG hQ dX9_spotOf_40 rfl h
  · have h := h.2 hc1
    refine x_keep [false, false, false, false, false] rfl ?_
    exact k_X9_spotOf_33 hG hQ _ _ h
set_option maxRecDepth 100000 in
set_option maxHeartbeats 4000000 in
theorem c_X9_spotOf {l : Launch} {a : Nat → Nat} {M : xMem} {p0 : Int32} {p1 : Int32} {p2 : Int32} {p3 : Int32} {post : Int32 → xMem → Prop} (ha : xInj a) (h : w_X9_spotOf M p0 p1 p2 p3 post) : ∀ D cs sz, xMetI l yX9_spotOf wsX9_spotOf rm_X9_spotOf D a cs sz M [.int p0, .int p1, .int p2, .int p3] post := by
  intro D cs sz
  unfold w_X9_spotOf at h
  refine x_metI (ty := .int) [some (.int p0), some (.int p1), some (.int p2), some (.int p3), none] (by decide) rfl rfl (Nat.le_of_ble_eq_true rfl) rfl rfl ha D cs sz rfl (fun G e1 e2 hG hQ => ?_)
  subst e1
  subst e2
  refine x_iload_n hG dX9_spotOf_0 rfl rfl ?_
  refine x_iload_n hG dX9_spotOf_1 rfl rfl ?_
  refine x_cSI2 hG dX9_spotOf_2 (fun ha => c_X9_lesser ha h) gX9_spotOf_X9_lesser rfl ⟨rfl, rfl⟩ hy_X9_lesser ⟨Nat.le_of_ble_eq_true rfl, Nat.le_of_ble_eq_true rfl⟩ (Nat.le_of_ble_eq_true rfl) (fun z1 M2 h => ?_)
  refine x_istore hG dX9_spotOf_5 (Nat.le_of_ble_eq_true rfl) rfl ?_
  refine x_iload_n hG dX9_spotOf_7 rfl rfl ?_
  refine x_iload hG dX9_spotOf_8 rfl ?_
  refine x_iadd hG dX9_spotOf_10 ?_
  refine x_iload_n hG dX9_spotOf_11 rfl rfl ?_
  refine x_iload_n hG dX9_spotOf_12 rfl rfl ?_
  refine x_iadd hG dX9_spotOf_13 ?_
  refine x_iconst (v := (2 : Int32)) hG dX9_spotOf_14 (by decide) ?_
  refine x_iload hG dX9_spotOf_15 rfl ?_
  refine x_imul hG dX9_spotOf_17 ?_
  refine x_isub hG dX9_spotOf_18 ?_
  refine x_iload_n hG dX9_spotOf_19 rfl rfl ?_
  refine x_icmp_ne (tgt := 28) hG dX9_spotOf_20 (by decide) (fun hc3 => ?_) (fun hc3 => ?_)
  · have h := h.1 hc3
    refine x_keep [false, false, true, false, false] rfl ?_
    exact k_X9_spotOf_28 hG hQ _ _ _ h
  · have h := h.2 hc3
    refine x_iload_n hG dX9_spotOf_23 rfl rfl ?_
    refine x_iconst (v := (1 : Int32)) hG dX9_spotOf_24 (by decide) ?_
    refine x_icmp_gt (tgt := 33) hG dX9_spotOf_25 (by decide) (fun hc4 => ?_) (fun hc4 => ?_)
    · have h := h.1 hc4
      refine x_keep [false, false, false, false, false] rfl ?_
      exact k_X9_spotOf_33 hG hQ _ _ h
    · have h := h.2 hc4
      refine x_keep [false, false, true, false, false] rfl ?_
      exact k_X9_spotOf_28 hG hQ _ _ _ h
abbrev rm_X9_begins : Room := { frames := 0, cells := 0, slots := 0, locals := 0 }
theorem hy_X9_begins : yX9_begins.cls = RX9 ∧ yX9_begins.cls ≠ "java/lang/invoke/MethodHandle" ∧ yX9_begins.cls ≠ "java/lang/invoke/VarHandle" ∧ (parseMethodDescriptor yX9_begins.desc).map (fun d => d.parameters.length) = some 0 := by decide +kernel
theorem hin_X9_begins_X9 : ∀ w ∈ wsX90, w ∈ wsX9_begins := fun _ h => List.mem_cons_of_mem _ (List.mem_append_right _ h)
set_option maxRecDepth 100000 in
set_option maxHeartbeats 4000000 in
theorem k_X9_begins_22 {G : xG} {post : xMem → Prop} (hG : xOk G cX9_begins RX9 wsX9_begins rm_X9_begins) (hQ : xRetV G post) : ∀ (M : xMem) (p1 : Int32), xlp2 (b_X9_begins_22 post) M p1 → xW G M [some (.ref (xa G 81)), some (.int p1)] [] 22 := by
  refine xlp2_W (W := fun M p1 => xW G M [some (.ref (xa G 81)), some (.int p1)] [] 22) (fun r22 hr22 => ?_)
  intro M p1 h
  unfold b_X9_begins_22 at h
  refine x_iload_n hG dX9_begins_22 rfl rfl ?_
  refine x_sipush (v := (207 : Int32)) hG dX9_begins_23 (by decide) ?_
  refine x_icmp_ge (tgt := 42) hG dX9_begins_26 (by decide) (fun hc1 => ?_) (fun hc1 => ?_)
  · have h := h.1 hc1
    exact x_vret hG hQ dX9_begins_42 h
  · have h := h.2 hc1
    refine x_aload_n hG dX9_begins_29 rfl rfl ?_
    refine x_get_9_15 hG dX9_begins_30 (rfl : kd 81 = 9) hin_X9_begins_X9 (List.mem_of_getElem? (i := 5) rfl) ?_
    refine x_iload_n hG dX9_begins_33 rfl rfl ?_
    refine x_iconst (v := (0 : Int32)) hG dX9_begins_34 (by decide) ?_
    obtain ⟨hi2, h⟩ := h
    have h := h _ rfl
    refine x_iastore hG dX9_begins_35 (kf_9_15 (rfl : kd 81 = 9)).1 (x_inE (kf_9_15 (rfl : kd 81 = 9)).2 hi2) ?_
    refine x_iinc (v := _) hG dX9_begins_36 rfl (x_iincE (k := 1) (by decide)) (Nat.le_of_ble_eq_true rfl) rfl ?_
    refine x_goto (tgt := 22) hG dX9_begins_39 (by decide) ?_
    refine x_keep [true, true] rfl ?_
    exact hr22 _ _ h
set_option maxRecDepth 100000 in
set_option maxHeartbeats 4000000 in
theorem c_X9_begins {l : Launch} {a : Nat → Nat} {M : xMem} {post : xMem → Prop} (ha : xInj a) (h : w_X9_begins M post) : ∀ D cs sz, xMetV l yX9_begins wsX9_begins rm_X9_begins D a cs sz M [.ref (a 81)] post := by
  intro D cs sz
  unfold w_X9_begins at h
  refine x_metV [some (.ref (a 81)), none] (by decide) rfl rfl (Nat.le_of_ble_eq_true rfl) rfl rfl ha D cs sz rfl (fun G e1 e2 hG hQ => ?_)
  subst e1
  subst e2
  refine x_aload_n hG dX9_begins_0 rfl rfl ?_
  refine x_iconst (v := (4 : Int32)) hG dX9_begins_1 (by decide) ?_
  have h := h _ rfl
  refine x_put_9_12 hG dX9_begins_2 (rfl : kd 81 = 9) hin_X9_begins_X9 (List.mem_of_getElem? (i := 1) rfl) ?_
  refine x_aload_n hG dX9_begins_5 rfl rfl ?_
  refine x_iconst (v := (3 : Int32)) hG dX9_begins_6 (by decide) ?_
  have h := h _ rfl
  refine x_put_9_13 hG dX9_begins_7 (rfl : kd 81 = 9) hin_X9_begins_X9 (List.mem_of_getElem? (i := 2) rfl) ?_
  refine x_aload_n hG dX9_begins_10 rfl rfl ?_
  refine x_iconst (v := (0 : Int32)) hG dX9_begins_11 (by decide) ?_
  have h := h _ rfl
  refine x_put_9_22 hG dX9_begins_12 (rfl : kd 81 = 9) hin_X9_begins_X9 (List.mem_of_getElem? (i := 3) rfl) ?_
  refine x_aload_n hG dX9_begins_15 rfl rfl ?_
  refine x_iconst (v := (0 : Int32)) hG dX9_begins_16 (by decide) ?_
  have h := h _ rfl
  refine x_put_9_23 hG dX9_begins_17 (rfl : kd 81 = 9) hin_X9_begins_X9 (List.mem_of_getElem? (i := 4) rfl) ?_
  refine x_iconst (v := (0 : Int32)) hG dX9_begins_20 (by decide) ?_
  refine x_istore_n hG dX9_begins_21 rfl (Nat.le_of_ble_eq_true rfl) rfl ?_
  refine x_keep [true, true] rfl ?_
  exact k_X9_begins_22 hG hQ _ _ h
abbrev rm_X9_readsBetween : Room := { frames := 6, cells := 0, slots := 0, locals := 137 }
theorem hy_X9_readsBetween : yX9_readsBetween.cls = RX9 ∧ yX9_readsBetween.cls ≠ "java/lang/invoke/MethodHandle" ∧ yX9_readsBetween.cls ≠ "java/lang/invoke/VarHandle" ∧ (parseMethodDescriptor yX9_readsBetween.desc).map (fun d => d.parameters.length) = some 1 := by decide +kernel
theorem hin_X9_readsBetween_X9 : ∀ w ∈ wsX90, w ∈ wsX9_readsBetween := fun _ h => List.mem_cons_of_mem _ (List.mem_append_right _ h)
set_option maxRecDepth 100000 in
set_option maxHeartbeats 4000000 in
theorem k_X9_readsBetween_114 {G : xG} {post : xMem → Prop} (hG : xOk G cX9_readsBetween RX9 wsX9_readsBetween rm_X9_readsBetween) (hQ : xRetV G post) : ∀ (M : xMem) (p5 : Int32) (s0 : Nat) (s1 : Int32) (s2 : Int32) (s3 : Int32) (s4 : Int32), b_X9_readsBetween_114 post M p5 s0 s1 s2 s3 s4 → xW G M [none, none, none, none, none, some (.int p5)] [.int s4, .int s3, .int s2, .int s1, .ref (xa G s0)] 114 := by
  intro M p5 s0 s1 s2 s3 s4 h
  unfold b_X9_readsBetween_114 at h
  refine x_cSI4 hG dX9_readsBetween_114 (fun ha => c_X9_spotOf ha h) gX9_readsBetween_X9_spotOf rfl ⟨rfl, rfl⟩ hy_X9_spotOf ⟨Nat.le_of_ble_eq_true rfl, Nat.le_of_ble_eq_true rfl⟩ (Nat.le_of_ble_eq_true rfl) (fun z1 M2 h => ?_)
  refine x_iload hG dX9_readsBetween_117 rfl ?_
  obtain ⟨hk3, h⟩ := h
  obtain ⟨hi4, h⟩ := h
  have h := h _ rfl
  refine x_iastore hG dX9_readsBetween_119 hk3 hi4 ?_
  exact x_vret hG hQ dX9_readsBetween_120 h
set_option maxRecDepth 100000 in
set_option maxHeartbeats 4000000 in
theorem k_X9_readsBetween_80 {G : xG} {post : xMem → Prop} (hG : xOk G cX9_readsBetween RX9 wsX9_readsBetween rm_X9_readsBetween) (hQ : xRetV G post) : ∀ (M : xMem) (p1 : Int32) (p3 : Int32) (p4 : Int32) (s1 : Int32) (s2 : Int32), b_X9_readsBetween_80 post M p1 p3 p4 s1 s2 → xW G M [some (.ref (xa G 81)), some (.int p1), none, some (.int p3), some (.int p4), none] [.int s2, .int s1, .ref (xa G 81)] 80 := by
  intro M p1 p3 p4 s1 s2 h
  unfold b_X9_readsBetween_80 at h
  refine x_cVI2 hG dX9_readsBetween_80 (fun ha => c_X9_number ha h) gX9_readsBetween_X9_number rfl ⟨rfl, rfl⟩ hy_X9_number ⟨Nat.le_of_ble_eq_true rfl, Nat.le_of_ble_eq_true rfl⟩ (kd_lt (rfl : kd 81 = 9) (by decide)) (fun _ => xc_9 (rfl : kd 81 = 9)) rfl (Nat.le_of_ble_eq_true rfl) (fun z1 M2 h => ?_)
  refine x_istore hG dX9_readsBetween_83 (Nat.le_of_ble_eq_true rfl) rfl ?_
  refine x_aload_n hG dX9_readsBetween_85 rfl rfl ?_
  refine x_cVI0 hG dX9_readsBetween_86 (fun ha => c_X9_isWell ha h) gX9_readsBetween_X9_isWell rfl ⟨rfl, rfl⟩ hy_X9_isWell ⟨Nat.le_of_ble_eq_true rfl, Nat.le_of_ble_eq_true rfl⟩ (kd_lt (rfl : kd 81 = 9) (by decide)) (fun _ => xc_9 (rfl : kd 81 = 9)) rfl (Nat.le_of_ble_eq_true rfl) (fun z3 M4 h => ?_)
  refine x_if_eq (tgt := 120) hG dX9_readsBetween_89 (by decide) (fun hc5 => ?_) (fun hc5 => ?_)
  · have h := h.1 hc5
    exact x_vret hG hQ dX9_readsBetween_120 h
  · have h := h.2 hc5
    refine x_aload_n hG dX9_readsBetween_92 rfl rfl ?_
    refine x_get_9_15 hG dX9_readsBetween_93 (rfl : kd 81 = 9) hin_X9_readsBetween_X9 (List.mem_of_getElem? (i := 5) rfl) ?_
    refine x_iload_n hG dX9_readsBetween_96 rfl rfl ?_
    refine x_iload hG dX9_readsBetween_97 rfl ?_
    refine x_aload_n hG dX9_readsBetween_99 rfl rfl ?_
    refine x_get_9_12 hG dX9_readsBetween_100 (rfl : kd 81 = 9) hin_X9_readsBetween_X9 (List.mem_of_getElem? (i := 1) rfl) ?_
    refine x_iload_n hG dX9_readsBetween_103 rfl rfl ?_
    refine x_iconst (v := (1 : Int32)) hG dX9_readsBetween_104 (by decide) ?_
    refine x_icmp_ne (tgt := 112) hG dX9_readsBetween_105 (by decide) (fun hc6 => ?_) (fun hc6 => ?_)
    · have h := h.1 hc6
      refine x_bipush (v := (96 : Int32)) hG dX9_readsBetween_112 (by decide) ?_
      refine x_keep [false, false, false, false, false, true] rfl ?_
      exact k_X9_readsBetween_114 hG hQ _ _ _ _ _ _ _ h
    · have h := h.2 hc6
      refine x_iconst (v := (0 : Int32)) hG dX9_readsBetween_108 (by decide) ?_
      refine x_goto (tgt := 114) hG dX9_readsBetween_109 (by decide) ?_
      refine x_keep [false, false, false, false, false, true] rfl ?_
      exact k_X9_readsBetween_114 hG hQ _ _ _ _ _ _ _ h
set_option maxRecDepth 100000 in
set_option maxHeartbeats 4000000 in
theorem k_X9_readsBetween_62 {G : xG} {post : xMem → Prop} (hG : xOk G cX9_readsBetween RX9 wsX9_readsBetween rm_X9_readsBetween) (hQ : xRetV G post) : ∀ (M : xMem) (p1 : Int32) (p3 : Int32) (s1 : Int32), b_X9_readsBetween_62 post M p1 p3 s1 → xW G M [some (.ref (xa G 81)), some (.int p1), none, some (.int p3), none, none] [.int s1, .ref (xa G 81)] 62 := by
  intro M p1 p3 s1 h
  unfold b_X9_readsBetween_62 at h
  refine x_cVI1 hG dX9_readsBetween_62 (fun ha => c_X9_takes ha h) gX9_readsBetween_X9_takes rfl ⟨rfl, rfl⟩ hy_X9_takes ⟨Nat.le_of_ble_eq_true rfl, Nat.le_of_ble_eq_true rfl⟩ (kd_lt (rfl : kd 81 = 9) (by decide)) (fun _ => xc_9 (rfl : kd 81 = 9)) rfl (Nat.le_of_ble_eq_true rfl) (fun z1 M2 h => ?_)
  refine x_istore hG dX9_readsBetween_65 (Nat.le_of_ble_eq_true rfl) rfl ?_
  refine x_aload_n hG dX9_readsBetween_67 rfl rfl ?_
  refine x_iconst (v := (0 : Int32)) hG dX9_readsBetween_68 (by decide) ?_
  refine x_iload_n hG dX9_readsBetween_69 rfl rfl ?_
  refine x_iconst (v := (1 : Int32)) hG dX9_readsBetween_70 (by decide) ?_
  refine x_icmp_ne (tgt := 78) hG dX9_readsBetween_71 (by decide) (fun hc3 => ?_) (fun hc3 => ?_)
  · have h := h.1 hc3
    refine x_bipush (v := (9 : Int32)) hG dX9_readsBetween_78 (by decide) ?_
    refine x_keep [true, true, false, true, true, false] rfl ?_
    exact k_X9_readsBetween_80 hG hQ _ _ _ _ _ _ h
  · have h := h.2 hc3
    refine x_iconst (v := (3 : Int32)) hG dX9_readsBetween_74 (by decide) ?_
    refine x_goto (tgt := 80) hG dX9_readsBetween_75 (by decide) ?_
    refine x_keep [true, true, false, true, true, false] rfl ?_
    exact k_X9_readsBetween_80 hG hQ _ _ _ _ _ _ h
set_option maxRecDepth 100000 in
set_option maxHeartbeats 4000000 in
theorem k_X9_readsBetween_61 {G : xG} {post : xMem → Prop} (hG : xOk G cX9_readsBetween RX9 wsX9_readsBetween rm_X9_readsBetween) (hQ : xRetV G post) : ∀ (M : xMem) (p1 : Int32) (p3 : Int32), b_X9_readsBetween_61 post M p1 p3 → xW G M [some (.ref (xa G 81)), some (.int p1), none, some (.int p3), none, none] [.ref (xa G 81)] 61 := by
  intro M p1 p3 h
  unfold b_X9_readsBetween_61 at h
  refine x_iconst (v := (0 : Int32)) hG dX9_readsBetween_61 (by decide) ?_
  refine x_keep [true, true, false, true, false, false] rfl ?_
  exact k_X9_readsBetween_62 hG hQ _ _ _ _ h
set_option maxRecDepth 100000 in
set_option maxHeartbeats 4000000 in
theorem c_X9_readsBetween {l : Launch} {a : Nat → Nat} {M : xMem} {p1 : Int32} {post : xMem → Prop} (ha : xInj a) (h : w_X9_readsBetween M p1 post) : ∀ D cs sz, xMetV l yX9_readsBetween wsX9_readsBetween rm_X9_readsBetween D a cs sz M [.ref (a 81), .int p1] post := by
  intro D cs sz
  unfold w_X9_readsBetween at h
  refine x_metV [some (.ref (a 81)), some (.int p1), none, none, none, none] (by decide) rfl rfl (Nat.le_of_ble_eq_true rfl) rfl rfl ha D cs sz rfl (fun G e1 e2 hG hQ => ?_)
  subst e1
  subst e2
  refine x_aload_n hG dX9_readsBetween_0 rfl rfl ?_
  refine x_get_9_12 hG dX9_readsBetween_1 (rfl : kd 81 = 9) hin_X9_readsBetween_X9 (List.mem_of_getElem? (i := 1) rfl) ?_
  refine x_aload_n hG dX9_readsBetween_4 rfl rfl ?_
  refine x_get_9_13 hG dX9_readsBetween_5 (rfl : kd 81 = 9) hin_X9_readsBetween_X9 (List.mem_of_getElem? (i := 2) rfl) ?_
  refine x_imul hG dX9_readsBetween_8 ?_
  refine x_istore_n hG dX9_readsBetween_9 rfl (Nat.le_of_ble_eq_true rfl) rfl ?_
  refine x_aload_n hG dX9_readsBetween_10 rfl rfl ?_
  refine x_iconst (v := (0 : Int32)) hG dX9_readsBetween_11 (by decide) ?_
  refine x_iload_n hG dX9_readsBetween_12 rfl rfl ?_
  refine x_iconst (v := (1 : Int32)) hG dX9_readsBetween_13 (by decide) ?_
  refine x_isub hG dX9_readsBetween_14 ?_
  refine x_cVI2 hG dX9_readsBetween_15 (fun ha => c_X9_number ha h) gX9_readsBetween_X9_number rfl ⟨rfl, rfl⟩ hy_X9_number ⟨Nat.le_of_ble_eq_true rfl, Nat.le_of_ble_eq_true rfl⟩ (kd_lt (rfl : kd 81 = 9) (by decide)) (fun _ => xc_9 (rfl : kd 81 = 9)) rfl (Nat.le_of_ble_eq_true rfl) (fun z1 M2 h => ?_)
  refine x_istore_n hG dX9_readsBetween_18 rfl (Nat.le_of_ble_eq_true rfl) rfl ?_
  refine x_aload_n hG dX9_readsBetween_19 rfl rfl ?_
  refine x_aload_n hG dX9_readsBetween_20 rfl rfl ?_
  refine x_get_9_5 hG dX9_readsBetween_21 (rfl : kd 81 = 9) hin_X9_readsBetween_X9 (List.mem_of_getElem? (i := 3) rfl) ?_
  refine x_iconst (v := (2 : Int32)) hG dX9_readsBetween_24 (by decide) ?_
  refine x_icmp_ne (tgt := 61) hG dX9_readsBetween_25 (by decide) (fun hc3 => ?_) (fun hc3 => ?_)
  · have h := h.1 hc3
    refine x_keep [true, true, false, true, false, false] rfl ?_
    exact k_X9_readsBetween_61 hG hQ _ _ _ h
  · have h := h.2 hc3
    refine x_aload_n hG dX9_readsBetween_28 rfl rfl ?_
    refine x_get_9_7 hG dX9_readsBetween_29 (rfl : kd 81 = 9) hin_X9_readsBetween_X9 (List.mem_of_getElem? (i := 4) rfl) ?_
    refine x_iconst (v := (0 : Int32)) hG dX9_readsBetween_32 (by decide) ?_
    refine x_iload_n hG dX9_readsBetween_33 rfl rfl ?_
    refine x_iconst (v := (1 : Int32)) hG dX9_readsBetween_34 (by decide) ?_
    refine x_isub hG dX9_readsBetween_35 ?_
    refine x_cSI3 hG dX9_readsBetween_36 (fun ha => c_X9_in ha h) gX9_readsBetween_X9_in rfl ⟨rfl, rfl⟩ hy_X9_in ⟨Nat.le_of_ble_eq_true rfl, Nat.le_of_ble_eq_true rfl⟩ (Nat.le_of_ble_eq_true rfl) (fun z4 M5 h => ?_)
    refine x_if_eq (tgt := 61) hG dX9_readsBetween_39 (by decide) (fun hc6 => ?_) (fun hc6 => ?_)
    · have h := h.1 hc6
      refine x_keep [true, true, false, true, false, false] rfl ?_
      exact k_X9_readsBetween_61 hG hQ _ _ _ h
    · have h := h.2 hc6
      refine x_iload_n hG dX9_readsBetween_42 rfl rfl ?_
      refine x_aload_n hG dX9_readsBetween_43 rfl rfl ?_
      refine x_get_9_7 hG dX9_readsBetween_44 (rfl : kd 81 = 9) hin_X9_readsBetween_X9 (List.mem_of_getElem? (i := 4) rfl) ?_
      refine x_aload_n hG dX9_readsBetween_47 rfl rfl ?_
      refine x_get_9_12 hG dX9_readsBetween_48 (rfl : kd 81 = 9) hin_X9_readsBetween_X9 (List.mem_of_getElem? (i := 1) rfl) ?_
      refine x_cSI3 hG dX9_readsBetween_51 (fun ha => c_X9_areBeside ha h) gX9_readsBetween_X9_areBeside rfl ⟨rfl, rfl⟩ hy_X9_areBeside ⟨Nat.le_of_ble_eq_true rfl, Nat.le_of_ble_eq_true rfl⟩ (Nat.le_of_ble_eq_true rfl) (fun z7 M8 h => ?_)
      refine x_if_eq (tgt := 61) hG dX9_readsBetween_54 (by decide) (fun hc9 => ?_) (fun hc9 => ?_)
      · have h := h.1 hc9
        refine x_keep [true, true, false, true, false, false] rfl ?_
        exact k_X9_readsBetween_61 hG hQ _ _ _ h
      · have h := h.2 hc9
        refine x_iconst (v := (1 : Int32)) hG dX9_readsBetween_57 (by decide) ?_
        refine x_goto (tgt := 62) hG dX9_readsBetween_58 (by decide) ?_
        refine x_keep [true, true, false, true, false, false] rfl ?_
        exact k_X9_readsBetween_62 hG hQ _ _ _ _ h
abbrev rm_X9_readsItem : Room := { frames := 7, cells := 0, slots := 0, locals := 162 }
theorem hy_X9_readsItem : yX9_readsItem.cls = RX9 ∧ yX9_readsItem.cls ≠ "java/lang/invoke/MethodHandle" ∧ yX9_readsItem.cls ≠ "java/lang/invoke/VarHandle" ∧ (parseMethodDescriptor yX9_readsItem.desc).map (fun d => d.parameters.length) = some 1 := by decide +kernel
theorem hin_X9_readsItem_X9 : ∀ w ∈ wsX90, w ∈ wsX9_readsItem := fun _ h => List.mem_cons_of_mem _ (List.mem_append_right _ h)
set_option maxRecDepth 100000 in
set_option maxHeartbeats 4000000 in
theorem k_X9_readsItem_49 {G : xG} {post : xMem → Prop} (hG : xOk G cX9_readsItem RX9 wsX9_readsItem rm_X9_readsItem) (hQ : xRetV G post) : ∀ (M : xMem) (p1 : Int32), b_X9_readsItem_49 post M p1 → xW G M [some (.ref (xa G 81)), some (.int p1), none, none, none] [] 49 := by
  intro M p1 h
  unfold b_X9_readsItem_49 at h
  refine x_aload_n hG dX9_readsItem_49 rfl rfl ?_
  refine x_iload_n hG dX9_readsItem_50 rfl rfl ?_
  refine x_cVV1 hG dX9_readsItem_51 (fun ha => c_X9_readsBetween ha h) gX9_readsItem_X9_readsBetween rfl ⟨rfl, rfl⟩ hy_X9_readsBetween ⟨Nat.le_of_ble_eq_true rfl, Nat.le_of_ble_eq_true rfl⟩ (kd_lt (rfl : kd 81 = 9) (by decide)) (fun _ => xc_9 (rfl : kd 81 = 9)) rfl (Nat.le_of_ble_eq_true rfl) (fun M2 h => ?_)
  refine x_goto (tgt := 345) hG dX9_readsItem_54 (by decide) ?_
  exact x_vret hG hQ dX9_readsItem_345 h
set_option maxRecDepth 100000 in
set_option maxHeartbeats 4000000 in
theorem k_X9_readsItem_155 {G : xG} {post : xMem → Prop} (hG : xOk G cX9_readsItem RX9 wsX9_readsItem rm_X9_readsItem) (hQ : xRetV G post) : ∀ (M : xMem), b_X9_readsItem_155 post M → xW G M [none, none, none, none, none] [] 155 := by
  intro M h
  unfold b_X9_readsItem_155 at h
  refine x_goto (tgt := 345) hG dX9_readsItem_155 (by decide) ?_
  exact x_vret hG hQ dX9_readsItem_345 h
set_option maxRecDepth 100000 in
set_option maxHeartbeats 4000000 in
theorem k_X9_readsItem_154 {G : xG} {post : xMem → Prop} (hG : xOk G cX9_readsItem RX9 wsX9_readsItem rm_X9_readsItem) (hQ : xRetV G post) : ∀ (M : xMem) (s0 : Nat) (s1 : Int32) (s2 : Int32), b_X9_readsItem_154 post M s0 s1 s2 → xW G M [none, none, none, none, none] [.int s2, .int s1, .ref (xa G s0)] 154 := by
  intro M s0 s1 s2 h
  unfold b_X9_readsItem_154 at h
  obtain ⟨hk1, h⟩ := h
  obtain ⟨hi2, h⟩ := h
  have h := h _ rfl
  refine x_iastore hG dX9_readsItem_154 hk1 hi2 ?_
  refine x_keep [false, false, false, false, false] rfl ?_
  exact k_X9_readsItem_155 hG hQ _ h
set_option maxRecDepth 100000 in
set_option maxHeartbeats 4000000 in
theorem k_X9_readsItem_146 {G : xG} {post : xMem → Prop} (hG : xOk G cX9_readsItem RX9 wsX9_readsItem rm_X9_readsItem) (hQ : xRetV G post) : ∀ (M : xMem) (p4 : Int32) (s0 : Nat) (s1 : Int32), b_X9_readsItem_146 post M p4 s0 s1 → xW G M [none, none, none, none, some (.int p4)] [.int s1, .ref (xa G s0)] 146 := by
  intro M p4 s0 s1 h
  unfold b_X9_readsItem_146 at h
  refine x_iload hG dX9_readsItem_146 rfl ?_
  refine x_goto (tgt := 154) hG dX9_readsItem_148 (by decide) ?_
  refine x_keep [false, false, false, false, false] rfl ?_
  exact k_X9_readsItem_154 hG hQ _ _ _ _ h
set_option maxRecDepth 100000 in
set_option maxHeartbeats 4000000 in
theorem k_X9_readsItem_134 {G : xG} {post : xMem → Prop} (hG : xOk G cX9_readsItem RX9 wsX9_readsItem rm_X9_readsItem) (hQ : xRetV G post) : ∀ (M : xMem) (p3 : Int32) (p4 : Int32) (s0 : Nat) (s1 : Int32), b_X9_readsItem_134 post M p3 p4 s0 s1 → xW G M [none, none, none, some (.int p3), some (.int p4)] [.int s1, .ref (xa G s0)] 134 := by
  intro M p3 p4 s0 s1 h
  unfold b_X9_readsItem_134 at h
  refine x_iload_n hG dX9_readsItem_134 rfl rfl ?_
  refine x_bipush (v := (6 : Int32)) hG dX9_readsItem_135 (by decide) ?_
  refine x_icmp_eq (tgt := 146) hG dX9_readsItem_137 (by decide) (fun hc1 => ?_) (fun hc1 => ?_)
  · have h := h.1 hc1
    refine x_keep [false, false, false, false, true] rfl ?_
    exact k_X9_readsItem_146 hG hQ _ _ _ _ h
  · have h := h.2 hc1
    refine x_iload_n hG dX9_readsItem_140 rfl rfl ?_
    refine x_bipush (v := (8 : Int32)) hG dX9_readsItem_141 (by decide) ?_
    refine x_icmp_ne (tgt := 151) hG dX9_readsItem_143 (by decide) (fun hc2 => ?_) (fun hc2 => ?_)
    · have h := h.1 hc2
      refine x_iload hG dX9_readsItem_151 rfl ?_
      refine x_ineg hG dX9_readsItem_153 ?_
      refine x_keep [false, false, false, false, false] rfl ?_
      exact k_X9_readsItem_154 hG hQ _ _ _ _ h
    · have h := h.2 hc2
      refine x_keep [false, false, false, false, true] rfl ?_
      exact k_X9_readsItem_146 hG hQ _ _ _ _ h
set_option maxRecDepth 100000 in
set_option maxHeartbeats 4000000 in
theorem k_X9_readsItem_125 {G : xG} {post : xMem → Prop} (hG : xOk G cX9_readsItem RX9 wsX9_readsItem rm_X9_readsItem) (hQ : xRetV G post) : ∀ (M : xMem) (p3 : Int32) (p4 : Int32) (s0 : Nat), b_X9_readsItem_125 post M p3 p4 s0 → xW G M [none, none, none, some (.int p3), some (.int p4)] [.ref (xa G s0)] 125 := by
  intro M p3 p4 s0 h
  unfold b_X9_readsItem_125 at h
  refine x_sipush (v := (192 : Int32)) hG dX9_readsItem_125 (by decide) ?_
  refine x_goto (tgt := 134) hG dX9_readsItem_128 (by decide) ?_
  refine x_keep [false, false, false, true, true] rfl ?_
  exact k_X9_readsItem_134 hG hQ _ _ _ _ _ h
set_option maxRecDepth 100000 in
set_option maxHeartbeats 4000000 in
theorem k_X9_readsItem_90 {G : xG} {post : xMem → Prop} (hG : xOk G cX9_readsItem RX9 wsX9_readsItem rm_X9_readsItem) (hQ : xRetV G post) : ∀ (M : xMem) (s1 : Int32), b_X9_readsItem_90 post M s1 → xW G M [some (.ref (xa G 81)), none, none, none, none] [.int s1, .ref (xa G 81)] 90 := by
  intro M s1 h
  unfold b_X9_readsItem_90 at h
  refine x_cVI1 hG dX9_readsItem_90 (fun ha => c_X9_takes ha h) gX9_readsItem_X9_takes rfl ⟨rfl, rfl⟩ hy_X9_takes ⟨Nat.le_of_ble_eq_true rfl, Nat.le_of_ble_eq_true rfl⟩ (kd_lt (rfl : kd 81 = 9) (by decide)) (fun _ => xc_9 (rfl : kd 81 = 9)) rfl (Nat.le_of_ble_eq_true rfl) (fun z1 M2 h => ?_)
  refine x_istore_n hG dX9_readsItem_93 rfl (Nat.le_of_ble_eq_true rfl) rfl ?_
  refine x_aload_n hG dX9_readsItem_94 rfl rfl ?_
  refine x_iconst (v := (0 : Int32)) hG dX9_readsItem_95 (by decide) ?_
  refine x_iconst (v := (2 : Int32)) hG dX9_readsItem_96 (by decide) ?_
  refine x_cVI2 hG dX9_readsItem_97 (fun ha => c_X9_number ha h) gX9_readsItem_X9_number rfl ⟨rfl, rfl⟩ hy_X9_number ⟨Nat.le_of_ble_eq_true rfl, Nat.le_of_ble_eq_true rfl⟩ (kd_lt (rfl : kd 81 = 9) (by decide)) (fun _ => xc_9 (rfl : kd 81 = 9)) rfl (Nat.le_of_ble_eq_true rfl) (fun z3 M4 h => ?_)
  refine x_istore hG dX9_readsItem_100 (Nat.le_of_ble_eq_true rfl) rfl ?_
  refine x_aload_n hG dX9_readsItem_102 rfl rfl ?_
  refine x_cVI0 hG dX9_readsItem_103 (fun ha => c_X9_isWell ha h) gX9_readsItem_X9_isWell rfl ⟨rfl, rfl⟩ hy_X9_isWell ⟨Nat.le_of_ble_eq_true rfl, Nat.le_of_ble_eq_true rfl⟩ (kd_lt (rfl : kd 81 = 9) (by decide)) (fun _ => xc_9 (rfl : kd 81 = 9)) rfl (Nat.le_of_ble_eq_true rfl) (fun z5 M6 h => ?_)
  refine x_if_eq (tgt := 155) hG dX9_readsItem_106 (by decide) (fun hc7 => ?_) (fun hc7 => ?_)
  · have h := h.1 hc7
    refine x_keep [false, false, false, false, false] rfl ?_
    exact k_X9_readsItem_155 hG hQ _ h
  · have h := h.2 hc7
    refine x_aload_n hG dX9_readsItem_109 rfl rfl ?_
    refine x_get_9_15 hG dX9_readsItem_110 (rfl : kd 81 = 9) hin_X9_readsItem_X9 (List.mem_of_getElem? (i := 5) rfl) ?_
    refine x_iload_n hG dX9_readsItem_113 rfl rfl ?_
    refine x_bipush (v := (6 : Int32)) hG dX9_readsItem_114 (by decide) ?_
    refine x_icmp_eq (tgt := 125) hG dX9_readsItem_116 (by decide) (fun hc8 => ?_) (fun hc8 => ?_)
    · have h := h.1 hc8
      refine x_keep [false, false, false, true, true] rfl ?_
      exact k_X9_readsItem_125 hG hQ _ _ _ _ h
    · have h := h.2 hc8
      refine x_iload_n hG dX9_readsItem_119 rfl rfl ?_
      refine x_bipush (v := (7 : Int32)) hG dX9_readsItem_120 (by decide) ?_
      refine x_icmp_ne (tgt := 131) hG dX9_readsItem_122 (by decide) (fun hc9 => ?_) (fun hc9 => ?_)
      · have h := h.1 hc9
        refine x_sipush (v := (193 : Int32)) hG dX9_readsItem_131 (by decide) ?_
        refine x_keep [false, false, false, true, true] rfl ?_
        exact k_X9_readsItem_134 hG hQ _ _ _ _ _ h
      · have h := h.2 hc9
        refine x_keep [false, false, false, true, true] rfl ?_
        exact k_X9_readsItem_125 hG hQ _ _ _ _ h
set_option maxRecDepth 100000 in
set_option maxHeartbeats 4000000 in
theorem k_X9_readsItem_89 {G : xG} {post : xMem → Prop} (hG : xOk G cX9_readsItem RX9 wsX9_readsItem rm_X9_readsItem) (hQ : xRetV G post) : ∀ (M : xMem), b_X9_readsItem_89 post M → xW G M [some (.ref (xa G 81)), none, none, none, none] [.ref (xa G 81)] 89 := by
  intro M h
  unfold b_X9_readsItem_89 at h
  refine x_iconst (v := (0 : Int32)) hG dX9_readsItem_89 (by decide) ?_
  refine x_keep [true, false, false, false, false] rfl ?_
  exact k_X9_readsItem_90 hG hQ _ _ h
set_option maxRecDepth 100000 in
set_option maxHeartbeats 4000000 in
theorem c_X9_readsItem {l : Launch} {a : Nat → Nat} {M : xMem} {p1 : Int32} {post : xMem → Prop} (ha : xInj a) (h : w_X9_readsItem M p1 post) : ∀ D cs sz, xMetV l yX9_readsItem wsX9_readsItem rm_X9_readsItem D a cs sz M [.ref (a 81), .int p1] post := by
  intro D cs sz
  unfold w_X9_readsItem at h
  refine x_metV [some (.ref (a 81)), some (.int p1), none, none, none] (by decide) rfl rfl (Nat.le_of_ble_eq_true rfl) rfl rfl ha D cs sz rfl (fun G e1 e2 hG hQ => ?_)
  subst e1
  subst e2
  refine x_aload_n hG dX9_readsItem_0 rfl rfl ?_
  refine x_get_9_12 hG dX9_readsItem_1 (rfl : kd 81 = 9) hin_X9_readsItem_X9 (List.mem_of_getElem? (i := 1) rfl) ?_
  refine x_aload_n hG dX9_readsItem_4 rfl rfl ?_
  refine x_get_9_13 hG dX9_readsItem_5 (rfl : kd 81 = 9) hin_X9_readsItem_X9 (List.mem_of_getElem? (i := 2) rfl) ?_
  refine x_imul hG dX9_readsItem_8 ?_
  refine x_istore_n hG dX9_readsItem_9 rfl (Nat.le_of_ble_eq_true rfl) rfl ?_
  refine x_iload_n hG dX9_readsItem_10 rfl rfl ?_
  refine x_if_ne (tgt := 39) hG dX9_readsItem_11 (by decide) (fun hc1 => ?_) (fun hc1 => ?_)
  · have h := h.1 hc1
    refine x_iload_n hG dX9_readsItem_39 rfl rfl ?_
    refine x_iconst (v := (1 : Int32)) hG dX9_readsItem_40 (by decide) ?_
    refine x_icmp_eq (tgt := 49) hG dX9_readsItem_41 (by decide) (fun hc2 => ?_) (fun hc2 => ?_)
    · have h := h.1 hc2
      refine x_keep [true, true, false, false, false] rfl ?_
      exact k_X9_readsItem_49 hG hQ _ _ h
    · have h := h.2 hc2
      refine x_iload_n hG dX9_readsItem_44 rfl rfl ?_
      refine x_iconst (v := (2 : Int32)) hG dX9_readsItem_45 (by decide) ?_
      refine x_icmp_ne (tgt := 57) hG dX9_readsItem_46 (by decide) (fun hc3 => ?_) (fun hc3 => ?_)
      · have h := h.1 hc3
        refine x_iload_n hG dX9_readsItem_57 rfl rfl ?_
        refine x_iconst (v := (3 : Int32)) hG dX9_readsItem_58 (by decide) ?_
        refine x_icmp_ne (tgt := 158) hG dX9_readsItem_59 (by decide) (fun hc4 => ?_) (fun hc4 => ?_)
        · have h := h.1 hc4
          refine x_iload_n hG dX9_readsItem_158 rfl rfl ?_
          refine x_iconst (v := (4 : Int32)) hG dX9_readsItem_159 (by decide) ?_
          refine x_icmp_ne (tgt := 244) hG dX9_readsItem_160 (by decide) (fun hc5 => ?_) (fun hc5 => ?_)
          · have h := h.1 hc5
            refine x_bipush (v := (40 : Int32)) hG dX9_readsItem_244 (by decide) ?_
            refine x_iconst (v := (5 : Int32)) hG dX9_readsItem_246 (by decide) ?_
            refine x_aload_n hG dX9_readsItem_247 rfl rfl ?_
            refine x_get_9_23 hG dX9_readsItem_248 (rfl : kd 81 = 9) hin_X9_readsItem_X9 (List.mem_of_getElem? (i := 8) rfl) ?_
            refine x_imul hG dX9_readsItem_251 ?_
            refine x_iadd hG dX9_readsItem_252 ?_
            have h := h _ rfl
            refine x_istore_n hG dX9_readsItem_253 rfl (Nat.le_of_ble_eq_true rfl) rfl ?_
            refine x_aload_n hG dX9_readsItem_254 rfl rfl ?_
            refine x_get_9_19 hG dX9_readsItem_255 (rfl : kd 81 = 9) hin_X9_readsItem_X9 (List.mem_of_getElem? (i := 9) rfl) ?_
            refine x_iload_n hG dX9_readsItem_258 rfl rfl ?_
            refine x_aload_n hG dX9_readsItem_259 rfl rfl ?_
            refine x_iconst (v := (0 : Int32)) hG dX9_readsItem_260 (by decide) ?_
            refine x_iload_n hG dX9_readsItem_261 rfl rfl ?_
            refine x_iconst (v := (1 : Int32)) hG dX9_readsItem_262 (by decide) ?_
            refine x_isub hG dX9_readsItem_263 ?_
            refine x_cVI2 hG dX9_readsItem_264 (fun ha => c_X9_number ha h) gX9_readsItem_X9_number rfl ⟨rfl, rfl⟩ hy_X9_number ⟨Nat.le_of_ble_eq_true rfl, Nat.le_of_ble_eq_true rfl⟩ (kd_lt (rfl : kd 81 = 9) (by decide)) (fun _ => xc_9 (rfl : kd 81 = 9)) rfl (Nat.le_of_ble_eq_true rfl) (fun z7 M8 h => ?_)
            obtain ⟨hi9, h⟩ := h
            have h := h _ rfl
            refine x_iastore hG dX9_readsItem_267 (kf_9_19 (rfl : kd 81 = 9)).1 (x_inE (kf_9_19 (rfl : kd 81 = 9)).2 hi9) ?_
            refine x_aload_n hG dX9_readsItem_268 rfl rfl ?_
            refine x_get_9_19 hG dX9_readsItem_269 (rfl : kd 81 = 9) hin_X9_readsItem_X9 (List.mem_of_getElem? (i := 9) rfl) ?_
            refine x_iload_n hG dX9_readsItem_272 rfl rfl ?_
            refine x_iconst (v := (1 : Int32)) hG dX9_readsItem_273 (by decide) ?_
            refine x_iadd hG dX9_readsItem_274 ?_
            refine x_aload_n hG dX9_readsItem_275 rfl rfl ?_
            refine x_iconst (v := (0 : Int32)) hG dX9_readsItem_276 (by decide) ?_
            refine x_bipush (v := (11 : Int32)) hG dX9_readsItem_277 (by decide) ?_
            refine x_cVI2 hG dX9_readsItem_279 (fun ha => c_X9_number ha h) gX9_readsItem_X9_number rfl ⟨rfl, rfl⟩ hy_X9_number ⟨Nat.le_of_ble_eq_true rfl, Nat.le_of_ble_eq_true rfl⟩ (kd_lt (rfl : kd 81 = 9) (by decide)) (fun _ => xc_9 (rfl : kd 81 = 9)) rfl (Nat.le_of_ble_eq_true rfl) (fun z11 M12 h => ?_)
            obtain ⟨hi13, h⟩ := h
            have h := h _ rfl
            refine x_iastore hG dX9_readsItem_282 (kf_9_19 (rfl : kd 81 = 9)).1 (x_inE (kf_9_19 (rfl : kd 81 = 9)).2 hi13) ?_
            refine x_aload_n hG dX9_readsItem_283 rfl rfl ?_
            refine x_get_9_19 hG dX9_readsItem_284 (rfl : kd 81 = 9) hin_X9_readsItem_X9 (List.mem_of_getElem? (i := 9) rfl) ?_
            refine x_iload_n hG dX9_readsItem_287 rfl rfl ?_
            refine x_iconst (v := (2 : Int32)) hG dX9_readsItem_288 (by decide) ?_
            refine x_iadd hG dX9_readsItem_289 ?_
            refine x_aload_n hG dX9_readsItem_290 rfl rfl ?_
            refine x_aload_n hG dX9_readsItem_291 rfl rfl ?_
            refine x_get_9_19 hG dX9_readsItem_292 (rfl : kd 81 = 9) hin_X9_readsItem_X9 (List.mem_of_getElem? (i := 9) rfl) ?_
            refine x_iload_n hG dX9_readsItem_295 rfl rfl ?_
            refine x_iconst (v := (1 : Int32)) hG dX9_readsItem_296 (by decide) ?_
            refine x_iadd hG dX9_readsItem_297 ?_
            refine x_iaload hG dX9_readsItem_298 (kf_9_19 (rfl : kd 81 = 9)).1 (x_inE (kf_9_19 (rfl : kd 81 = 9)).2 hi13) ?_
            refine x_bipush (v := (11 : Int32)) hG dX9_readsItem_299 (by decide) ?_
            refine x_cVI2 hG dX9_readsItem_301 (fun ha => c_X9_number ha h) gX9_readsItem_X9_number rfl ⟨rfl, rfl⟩ hy_X9_number ⟨Nat.le_of_ble_eq_true rfl, Nat.le_of_ble_eq_true rfl⟩ (kd_lt (rfl : kd 81 = 9) (by decide)) (fun _ => xc_9 (rfl : kd 81 = 9)) rfl (Nat.le_of_ble_eq_true rfl) (fun z15 M16 h => ?_)
            obtain ⟨hi17, h⟩ := h
            have h := h _ rfl
            refine x_iastore hG dX9_readsItem_304 (kf_9_19 (rfl : kd 81 = 9)).1 (x_inE (kf_9_19 (rfl : kd 81 = 9)).2 hi17) ?_
            refine x_aload_n hG dX9_readsItem_305 rfl rfl ?_
            refine x_get_9_19 hG dX9_readsItem_306 (rfl : kd 81 = 9) hin_X9_readsItem_X9 (List.mem_of_getElem? (i := 9) rfl) ?_
            refine x_iload_n hG dX9_readsItem_309 rfl rfl ?_
            refine x_iconst (v := (3 : Int32)) hG dX9_readsItem_310 (by decide) ?_
            refine x_iadd hG dX9_readsItem_311 ?_
            refine x_aload_n hG dX9_readsItem_312 rfl rfl ?_
            refine x_iconst (v := (0 : Int32)) hG dX9_readsItem_313 (by decide) ?_
            refine x_bipush (v := (99 : Int32)) hG dX9_readsItem_314 (by decide) ?_
            refine x_cVI2 hG dX9_readsItem_316 (fun ha => c_X9_number ha h) gX9_readsItem_X9_number rfl ⟨rfl, rfl⟩ hy_X9_number ⟨Nat.le_of_ble_eq_true rfl, Nat.le_of_ble_eq_true rfl⟩ (kd_lt (rfl : kd 81 = 9) (by decide)) (fun _ => xc_9 (rfl : kd 81 = 9)) rfl (Nat.le_of_ble_eq_true rfl) (fun z19 M20 h => ?_)
            obtain ⟨hi21, h⟩ := h
            have h := h _ rfl
            refine x_iastore hG dX9_readsItem_319 (kf_9_19 (rfl : kd 81 = 9)).1 (x_inE (kf_9_19 (rfl : kd 81 = 9)).2 hi21) ?_
            refine x_aload_n hG dX9_readsItem_320 rfl rfl ?_
            refine x_get_9_19 hG dX9_readsItem_321 (rfl : kd 81 = 9) hin_X9_readsItem_X9 (List.mem_of_getElem? (i := 9) rfl) ?_
            refine x_iload_n hG dX9_readsItem_324 rfl rfl ?_
            refine x_iconst (v := (4 : Int32)) hG dX9_readsItem_325 (by decide) ?_
            refine x_iadd hG dX9_readsItem_326 ?_
            refine x_aload_n hG dX9_readsItem_327 rfl rfl ?_
            refine x_iconst (v := (0 : Int32)) hG dX9_readsItem_328 (by decide) ?_
            refine x_bipush (v := (99 : Int32)) hG dX9_readsItem_329 (by decide) ?_
            refine x_cVI2 hG dX9_readsItem_331 (fun ha => c_X9_number ha h) gX9_readsItem_X9_number rfl ⟨rfl, rfl⟩ hy_X9_number ⟨Nat.le_of_ble_eq_true rfl, Nat.le_of_ble_eq_true rfl⟩ (kd_lt (rfl : kd 81 = 9) (by decide)) (fun _ => xc_9 (rfl : kd 81 = 9)) rfl (Nat.le_of_ble_eq_true rfl) (fun z23 M24 h => ?_)
            obtain ⟨hi25, h⟩ := h
            have h := h _ rfl
            refine x_iastore hG dX9_readsItem_334 (kf_9_19 (rfl : kd 81 = 9)).1 (x_inE (kf_9_19 (rfl : kd 81 = 9)).2 hi25) ?_
            refine x_aload_n hG dX9_readsItem_335 rfl rfl ?_
            refine x_dup hG dX9_readsItem_336 rfl ?_
            refine x_get_9_23 hG dX9_readsItem_337 (rfl : kd 81 = 9) hin_X9_readsItem_X9 (List.mem_of_getElem? (i := 8) rfl) ?_
            refine x_iconst (v := (1 : Int32)) hG dX9_readsItem_340 (by decide) ?_
            refine x_iadd hG dX9_readsItem_341 ?_
            have h := h _ rfl
            refine x_put_9_23 hG dX9_readsItem_342 (rfl : kd 81 = 9) hin_X9_readsItem_X9 (List.mem_of_getElem? (i := 8) rfl) ?_
            exact x_vret hG hQ dX9_readsItem_345 h
          · have h := h.2 hc5
            refine x_bipush (v := (24 : Int32)) hG dX9_readsItem_163 (by decide) ?_
            refine x_iconst (v := (4 : Int32)) hG dX9_readsItem_165 (by decide) ?_
            refine x_aload_n hG dX9_readsItem_166 rfl rfl ?_
            refine x_get_9_22 hG dX9_readsItem_167 (rfl : kd 81 = 9) hin_X9_readsItem_X9 (List.mem_of_getElem? (i := 6) rfl) ?_
            refine x_imul hG dX9_readsItem_170 ?_
            refine x_iadd hG dX9_readsItem_171 ?_
            have h := h _ rfl
            refine x_istore_n hG dX9_readsItem_172 rfl (Nat.le_of_ble_eq_true rfl) rfl ?_
            refine x_aload_n hG dX9_readsItem_173 rfl rfl ?_
            refine x_get_9_18 hG dX9_readsItem_174 (rfl : kd 81 = 9) hin_X9_readsItem_X9 (List.mem_of_getElem? (i := 7) rfl) ?_
            refine x_iload_n hG dX9_readsItem_177 rfl rfl ?_
            refine x_aload_n hG dX9_readsItem_178 rfl rfl ?_
            refine x_iconst (v := (0 : Int32)) hG dX9_readsItem_179 (by decide) ?_
            refine x_iload_n hG dX9_readsItem_180 rfl rfl ?_
            refine x_iconst (v := (1 : Int32)) hG dX9_readsItem_181 (by decide) ?_
            refine x_isub hG dX9_readsItem_182 ?_
            refine x_cVI2 hG dX9_readsItem_183 (fun ha => c_X9_number ha h) gX9_readsItem_X9_number rfl ⟨rfl, rfl⟩ hy_X9_number ⟨Nat.le_of_ble_eq_true rfl, Nat.le_of_ble_eq_true rfl⟩ (kd_lt (rfl : kd 81 = 9) (by decide)) (fun _ => xc_9 (rfl : kd 81 = 9)) rfl (Nat.le_of_ble_eq_true rfl) (fun z29 M30 h => ?_)
            obtain ⟨hi31, h⟩ := h
            have h := h _ rfl
            refine x_iastore hG dX9_readsItem_186 (kf_9_18 (rfl : kd 81 = 9)).1 (x_inE (kf_9_18 (rfl : kd 81 = 9)).2 hi31) ?_
            refine x_aload_n hG dX9_readsItem_187 rfl rfl ?_
            refine x_get_9_18 hG dX9_readsItem_188 (rfl : kd 81 = 9) hin_X9_readsItem_X9 (List.mem_of_getElem? (i := 7) rfl) ?_
            refine x_iload_n hG dX9_readsItem_191 rfl rfl ?_
            refine x_iconst (v := (1 : Int32)) hG dX9_readsItem_192 (by decide) ?_
            refine x_iadd hG dX9_readsItem_193 ?_
            refine x_aload_n hG dX9_readsItem_194 rfl rfl ?_
            refine x_iconst (v := (1 : Int32)) hG dX9_readsItem_195 (by decide) ?_
            refine x_bipush (v := (99 : Int32)) hG dX9_readsItem_196 (by decide) ?_
            refine x_cVI2 hG dX9_readsItem_198 (fun ha => c_X9_number ha h) gX9_readsItem_X9_number rfl ⟨rfl, rfl⟩ hy_X9_number ⟨Nat.le_of_ble_eq_true rfl, Nat.le_of_ble_eq_true rfl⟩ (kd_lt (rfl : kd 81 = 9) (by decide)) (fun _ => xc_9 (rfl : kd 81 = 9)) rfl (Nat.le_of_ble_eq_true rfl) (fun z33 M34 h => ?_)
            obtain ⟨hi35, h⟩ := h
            have h := h _ rfl
            refine x_iastore hG dX9_readsItem_201 (kf_9_18 (rfl : kd 81 = 9)).1 (x_inE (kf_9_18 (rfl : kd 81 = 9)).2 hi35) ?_
            refine x_aload_n hG dX9_readsItem_202 rfl rfl ?_
            refine x_get_9_18 hG dX9_readsItem_203 (rfl : kd 81 = 9) hin_X9_readsItem_X9 (List.mem_of_getElem? (i := 7) rfl) ?_
            refine x_iload_n hG dX9_readsItem_206 rfl rfl ?_
            refine x_iconst (v := (2 : Int32)) hG dX9_readsItem_207 (by decide) ?_
            refine x_iadd hG dX9_readsItem_208 ?_
            refine x_aload_n hG dX9_readsItem_209 rfl rfl ?_
            refine x_iconst (v := (0 : Int32)) hG dX9_readsItem_210 (by decide) ?_
            refine x_iconst (v := (4 : Int32)) hG dX9_readsItem_211 (by decide) ?_
            refine x_cVI2 hG dX9_readsItem_212 (fun ha => c_X9_number ha h) gX9_readsItem_X9_number rfl ⟨rfl, rfl⟩ hy_X9_number ⟨Nat.le_of_ble_eq_true rfl, Nat.le_of_ble_eq_true rfl⟩ (kd_lt (rfl : kd 81 = 9) (by decide)) (fun _ => xc_9 (rfl : kd 81 = 9)) rfl (Nat.le_of_ble_eq_true rfl) (fun z37 M38 h => ?_)
            obtain ⟨hi39, h⟩ := h
            have h := h _ rfl
            refine x_iastore hG dX9_readsItem_215 (kf_9_18 (rfl : kd 81 = 9)).1 (x_inE (kf_9_18 (rfl : kd 81 = 9)).2 hi39) ?_
            refine x_aload_n hG dX9_readsItem_216 rfl rfl ?_
            refine x_get_9_18 hG dX9_readsItem_217 (rfl : kd 81 = 9) hin_X9_readsItem_X9 (List.mem_of_getElem? (i := 7) rfl) ?_
            refine x_iload_n hG dX9_readsItem_220 rfl rfl ?_
            refine x_iconst (v := (3 : Int32)) hG dX9_readsItem_221 (by decide) ?_
            refine x_iadd hG dX9_readsItem_222 ?_
            refine x_aload_n hG dX9_readsItem_223 rfl rfl ?_
            refine x_iconst (v := (0 : Int32)) hG dX9_readsItem_224 (by decide) ?_
            refine x_bipush (v := (99 : Int32)) hG dX9_readsItem_225 (by decide) ?_
            refine x_cVI2 hG dX9_readsItem_227 (fun ha => c_X9_number ha h) gX9_readsItem_X9_number rfl ⟨rfl, rfl⟩ hy_X9_number ⟨Nat.le_of_ble_eq_true rfl, Nat.le_of_ble_eq_true rfl⟩ (kd_lt (rfl : kd 81 = 9) (by decide)) (fun _ => xc_9 (rfl : kd 81 = 9)) rfl (Nat.le_of_ble_eq_true rfl) (fun z41 M42 h => ?_)
            obtain ⟨hi43, h⟩ := h
            have h := h _ rfl
            refine x_iastore hG dX9_readsItem_230 (kf_9_18 (rfl : kd 81 = 9)).1 (x_inE (kf_9_18 (rfl : kd 81 = 9)).2 hi43) ?_
            refine x_aload_n hG dX9_readsItem_231 rfl rfl ?_
            refine x_dup hG dX9_readsItem_232 rfl ?_
            refine x_get_9_22 hG dX9_readsItem_233 (rfl : kd 81 = 9) hin_X9_readsItem_X9 (List.mem_of_getElem? (i := 6) rfl) ?_
            refine x_iconst (v := (1 : Int32)) hG dX9_readsItem_236 (by decide) ?_
            refine x_iadd hG dX9_readsItem_237 ?_
            have h := h _ rfl
            refine x_put_9_22 hG dX9_readsItem_238 (rfl : kd 81 = 9) hin_X9_readsItem_X9 (List.mem_of_getElem? (i := 6) rfl) ?_
            refine x_goto (tgt := 345) hG dX9_readsItem_241 (by decide) ?_
            exact x_vret hG hQ dX9_readsItem_345 h
        · have h := h.2 hc4
          refine x_aload_n hG dX9_readsItem_62 rfl rfl ?_
          refine x_aload_n hG dX9_readsItem_63 rfl rfl ?_
          refine x_get_9_5 hG dX9_readsItem_64 (rfl : kd 81 = 9) hin_X9_readsItem_X9 (List.mem_of_getElem? (i := 3) rfl) ?_
          refine x_iconst (v := (1 : Int32)) hG dX9_readsItem_67 (by decide) ?_
          refine x_icmp_ne (tgt := 89) hG dX9_readsItem_68 (by decide) (fun hc46 => ?_) (fun hc46 => ?_)
          · have h := h.1 hc46
            refine x_keep [true, false, false, false, false] rfl ?_
            exact k_X9_readsItem_89 hG hQ _ h
          · have h := h.2 hc46
            refine x_aload_n hG dX9_readsItem_71 rfl rfl ?_
            refine x_get_9_7 hG dX9_readsItem_72 (rfl : kd 81 = 9) hin_X9_readsItem_X9 (List.mem_of_getElem? (i := 4) rfl) ?_
            refine x_bipush (v := (6 : Int32)) hG dX9_readsItem_75 (by decide) ?_
            refine x_bipush (v := (9 : Int32)) hG dX9_readsItem_77 (by decide) ?_
            refine x_cSI3 hG dX9_readsItem_79 (fun ha => c_X9_in ha h) gX9_readsItem_X9_in rfl ⟨rfl, rfl⟩ hy_X9_in ⟨Nat.le_of_ble_eq_true rfl, Nat.le_of_ble_eq_true rfl⟩ (Nat.le_of_ble_eq_true rfl) (fun z47 M48 h => ?_)
            refine x_if_eq (tgt := 89) hG dX9_readsItem_82 (by decide) (fun hc49 => ?_) (fun hc49 => ?_)
            · have h := h.1 hc49
              refine x_keep [true, false, false, false, false] rfl ?_
              exact k_X9_readsItem_89 hG hQ _ h
            · have h := h.2 hc49
              refine x_iconst (v := (1 : Int32)) hG dX9_readsItem_85 (by decide) ?_
              refine x_goto (tgt := 90) hG dX9_readsItem_86 (by decide) ?_
              refine x_keep [true, false, false, false, false] rfl ?_
              exact k_X9_readsItem_90 hG hQ _ _ h
      · have h := h.2 hc3
        refine x_keep [true, true, false, false, false] rfl ?_
        exact k_X9_readsItem_49 hG hQ _ _ h
  · have h := h.2 hc1
    refine x_aload_n hG dX9_readsItem_14 rfl rfl ?_
    refine x_aload_n hG dX9_readsItem_15 rfl rfl ?_
    refine x_iconst (v := (1 : Int32)) hG dX9_readsItem_16 (by decide) ?_
    refine x_bipush (v := (8 : Int32)) hG dX9_readsItem_17 (by decide) ?_
    refine x_cVI2 hG dX9_readsItem_19 (fun ha => c_X9_number ha h) gX9_readsItem_X9_number rfl ⟨rfl, rfl⟩ hy_X9_number ⟨Nat.le_of_ble_eq_true rfl, Nat.le_of_ble_eq_true rfl⟩ (kd_lt (rfl : kd 81 = 9) (by decide)) (fun _ => xc_9 (rfl : kd 81 = 9)) rfl (Nat.le_of_ble_eq_true rfl) (fun z50 M51 h => ?_)
    have h := h _ rfl
    refine x_put_9_12 hG dX9_readsItem_22 (rfl : kd 81 = 9) hin_X9_readsItem_X9 (List.mem_of_getElem? (i := 1) rfl) ?_
    refine x_aload_n hG dX9_readsItem_25 rfl rfl ?_
    refine x_aload_n hG dX9_readsItem_26 rfl rfl ?_
    refine x_iconst (v := (1 : Int32)) hG dX9_readsItem_27 (by decide) ?_
    refine x_bipush (v := (6 : Int32)) hG dX9_readsItem_28 (by decide) ?_
    refine x_cVI2 hG dX9_readsItem_30 (fun ha => c_X9_number ha h) gX9_readsItem_X9_number rfl ⟨rfl, rfl⟩ hy_X9_number ⟨Nat.le_of_ble_eq_true rfl, Nat.le_of_ble_eq_true rfl⟩ (kd_lt (rfl : kd 81 = 9) (by decide)) (fun _ => xc_9 (rfl : kd 81 = 9)) rfl (Nat.le_of_ble_eq_true rfl) (fun z53 M54 h => ?_)
    have h := h _ rfl
    refine x_put_9_13 hG dX9_readsItem_33 (rfl : kd 81 = 9) hin_X9_readsItem_X9 (List.mem_of_getElem? (i := 2) rfl) ?_
    refine x_goto (tgt := 345) hG dX9_readsItem_36 (by decide) ?_
    exact x_vret hG hQ dX9_readsItem_345 h
abbrev rm_X9_adopts : Room := { frames := 0, cells := 0, slots := 0, locals := 0 }
theorem hy_X9_adopts : yX9_adopts.cls = RX9 ∧ yX9_adopts.cls ≠ "java/lang/invoke/MethodHandle" ∧ yX9_adopts.cls ≠ "java/lang/invoke/VarHandle" ∧ (parseMethodDescriptor yX9_adopts.desc).map (fun d => d.parameters.length) = some 0 := by decide +kernel
theorem hin_X9_adopts_X9 : ∀ w ∈ wsX90, w ∈ wsX9_adopts := fun _ h => List.mem_cons_of_mem _ (List.mem_append_right _ h)
set_option maxRecDepth 100000 in
set_option maxHeartbeats 4000000 in
theorem k_X9_adopts_90 {G : xG} {post : xMem → Prop} (hG : xOk G cX9_adopts RX9 wsX9_adopts rm_X9_adopts) (hQ : xRetV G post) : ∀ (M : xMem) (p1 : Int32), xlp2 (b_X9_adopts_90 post) M p1 → xW G M [some (.ref (xa G 81)), some (.int p1)] [] 90 := by
  refine xlp2_W (W := fun M p1 => xW G M [some (.ref (xa G 81)), some (.int p1)] [] 90) (fun r90 hr90 => ?_)
  intro M p1 h
  unfold b_X9_adopts_90 at h
  refine x_iload_n hG dX9_adopts_90 rfl rfl ?_
  refine x_bipush (v := (40 : Int32)) hG dX9_adopts_91 (by decide) ?_
  refine x_icmp_ge (tgt := 117) hG dX9_adopts_93 (by decide) (fun hc1 => ?_) (fun hc1 => ?_)
  · have h := h.1 hc1
    refine x_aload_n hG dX9_adopts_117 rfl rfl ?_
    refine x_get_9_17 hG dX9_adopts_118 (rfl : kd 81 = 9) hin_X9_adopts_X9 (List.mem_of_getElem? (i := 13) rfl) ?_
    refine x_iconst (v := (0 : Int32)) hG dX9_adopts_121 (by decide) ?_
    refine x_iconst (v := (0 : Int32)) hG dX9_adopts_122 (by decide) ?_
    have h := h _ rfl
    refine x_zastore hG dX9_adopts_123 (kf_9_17 (rfl : kd 81 = 9)).1 (x_inE (kf_9_17 (rfl : kd 81 = 9)).2 (x_inC (by decide))) (x_nbz (by decide)) ?_
    refine x_aload_n hG dX9_adopts_124 rfl rfl ?_
    refine x_get_9_17 hG dX9_adopts_125 (rfl : kd 81 = 9) hin_X9_adopts_X9 (List.mem_of_getElem? (i := 13) rfl) ?_
    refine x_iconst (v := (1 : Int32)) hG dX9_adopts_128 (by decide) ?_
    refine x_iconst (v := (0 : Int32)) hG dX9_adopts_129 (by decide) ?_
    have h := h _ rfl
    refine x_zastore hG dX9_adopts_130 (kf_9_17 (rfl : kd 81 = 9)).1 (x_inE (kf_9_17 (rfl : kd 81 = 9)).2 (x_inC (by decide))) (x_nbz (by decide)) ?_
    exact x_vret hG hQ dX9_adopts_131 h
  · have h := h.2 hc1
    refine x_aload_n hG dX9_adopts_96 rfl rfl ?_
    refine x_get_9_19 hG dX9_adopts_97 (rfl : kd 81 = 9) hin_X9_adopts_X9 (List.mem_of_getElem? (i := 12) rfl) ?_
    refine x_iload_n hG dX9_adopts_100 rfl rfl ?_
    refine x_aload_n hG dX9_adopts_101 rfl rfl ?_
    refine x_get_9_19 hG dX9_adopts_102 (rfl : kd 81 = 9) hin_X9_adopts_X9 (List.mem_of_getElem? (i := 12) rfl) ?_
    refine x_bipush (v := (40 : Int32)) hG dX9_adopts_105 (by decide) ?_
    refine x_iload_n hG dX9_adopts_107 rfl rfl ?_
    refine x_iadd hG dX9_adopts_108 ?_
    obtain ⟨hi4, h⟩ := h
    refine x_iaload hG dX9_adopts_109 (kf_9_19 (rfl : kd 81 = 9)).1 (x_inE (kf_9_19 (rfl : kd 81 = 9)).2 hi4) ?_
    obtain ⟨hi5, h⟩ := h
    have h := h _ rfl
    refine x_iastore hG dX9_adopts_110 (kf_9_19 (rfl : kd 81 = 9)).1 (x_inE (kf_9_19 (rfl : kd 81 = 9)).2 hi5) ?_
    refine x_iinc (v := _) hG dX9_adopts_111 rfl (x_iincE (k := 1) (by decide)) (Nat.le_of_ble_eq_true rfl) rfl ?_
    refine x_goto (tgt := 90) hG dX9_adopts_114 (by decide) ?_
    refine x_keep [true, true] rfl ?_
    exact hr90 _ _ h
set_option maxRecDepth 100000 in
set_option maxHeartbeats 4000000 in
theorem k_X9_adopts_61 {G : xG} {post : xMem → Prop} (hG : xOk G cX9_adopts RX9 wsX9_adopts rm_X9_adopts) (hQ : xRetV G post) : ∀ (M : xMem) (p1 : Int32), xlp2 (b_X9_adopts_61 post) M p1 → xW G M [some (.ref (xa G 81)), some (.int p1)] [] 61 := by
  refine xlp2_W (W := fun M p1 => xW G M [some (.ref (xa G 81)), some (.int p1)] [] 61) (fun r61 hr61 => ?_)
  intro M p1 h
  unfold b_X9_adopts_61 at h
  refine x_iload_n hG dX9_adopts_61 rfl rfl ?_
  refine x_bipush (v := (24 : Int32)) hG dX9_adopts_62 (by decide) ?_
  refine x_icmp_ge (tgt := 88) hG dX9_adopts_64 (by decide) (fun hc1 => ?_) (fun hc1 => ?_)
  · have h := h.1 hc1
    refine x_iconst (v := (0 : Int32)) hG dX9_adopts_88 (by decide) ?_
    refine x_istore_n hG dX9_adopts_89 rfl (Nat.le_of_ble_eq_true rfl) rfl ?_
    refine x_keep [true, true] rfl ?_
    exact k_X9_adopts_90 hG hQ _ _ h
  · have h := h.2 hc1
    refine x_aload_n hG dX9_adopts_67 rfl rfl ?_
    refine x_get_9_18 hG dX9_adopts_68 (rfl : kd 81 = 9) hin_X9_adopts_X9 (List.mem_of_getElem? (i := 11) rfl) ?_
    refine x_iload_n hG dX9_adopts_71 rfl rfl ?_
    refine x_aload_n hG dX9_adopts_72 rfl rfl ?_
    refine x_get_9_18 hG dX9_adopts_73 (rfl : kd 81 = 9) hin_X9_adopts_X9 (List.mem_of_getElem? (i := 11) rfl) ?_
    refine x_bipush (v := (24 : Int32)) hG dX9_adopts_76 (by decide) ?_
    refine x_iload_n hG dX9_adopts_78 rfl rfl ?_
    refine x_iadd hG dX9_adopts_79 ?_
    obtain ⟨hi2, h⟩ := h
    refine x_iaload hG dX9_adopts_80 (kf_9_18 (rfl : kd 81 = 9)).1 (x_inE (kf_9_18 (rfl : kd 81 = 9)).2 hi2) ?_
    obtain ⟨hi3, h⟩ := h
    have h := h _ rfl
    refine x_iastore hG dX9_adopts_81 (kf_9_18 (rfl : kd 81 = 9)).1 (x_inE (kf_9_18 (rfl : kd 81 = 9)).2 hi3) ?_
    refine x_iinc (v := _) hG dX9_adopts_82 rfl (x_iincE (k := 1) (by decide)) (Nat.le_of_ble_eq_true rfl) rfl ?_
    refine x_goto (tgt := 61) hG dX9_adopts_85 (by decide) ?_
    refine x_keep [true, true] rfl ?_
    exact hr61 _ _ h
set_option maxRecDepth 100000 in
set_option maxHeartbeats 4000000 in
theorem k_X9_adopts_34 {G : xG} {post : xMem → Prop} (hG : xOk G cX9_adopts RX9 wsX9_adopts rm_X9_adopts) (hQ : xRetV G post) : ∀ (M : xMem) (p1 : Int32), xlp2 (b_X9_adopts_34 post) M p1 → xW G M [some (.ref (xa G 81)), some (.int p1)] [] 34 := by
  refine xlp2_W (W := fun M p1 => xW G M [some (.ref (xa G 81)), some (.int p1)] [] 34) (fun r34 hr34 => ?_)
  intro M p1 h
  unfold b_X9_adopts_34 at h
  refine x_iload_n hG dX9_adopts_34 rfl rfl ?_
  refine x_sipush (v := (207 : Int32)) hG dX9_adopts_35 (by decide) ?_
  refine x_icmp_ge (tgt := 59) hG dX9_adopts_38 (by decide) (fun hc1 => ?_) (fun hc1 => ?_)
  · have h := h.1 hc1
    refine x_iconst (v := (0 : Int32)) hG dX9_adopts_59 (by decide) ?_
    refine x_istore_n hG dX9_adopts_60 rfl (Nat.le_of_ble_eq_true rfl) rfl ?_
    refine x_keep [true, true] rfl ?_
    exact k_X9_adopts_61 hG hQ _ _ h
  · have h := h.2 hc1
    refine x_aload_n hG dX9_adopts_41 rfl rfl ?_
    refine x_get_9_14 hG dX9_adopts_42 (rfl : kd 81 = 9) hin_X9_adopts_X9 (List.mem_of_getElem? (i := 9) rfl) ?_
    refine x_iload_n hG dX9_adopts_45 rfl rfl ?_
    refine x_aload_n hG dX9_adopts_46 rfl rfl ?_
    refine x_get_9_15 hG dX9_adopts_47 (rfl : kd 81 = 9) hin_X9_adopts_X9 (List.mem_of_getElem? (i := 10) rfl) ?_
    refine x_iload_n hG dX9_adopts_50 rfl rfl ?_
    obtain ⟨hi2, h⟩ := h
    refine x_iaload hG dX9_adopts_51 (kf_9_15 (rfl : kd 81 = 9)).1 (x_inE (kf_9_15 (rfl : kd 81 = 9)).2 hi2) ?_
    obtain ⟨hi3, h⟩ := h
    have h := h _ rfl
    refine x_iastore hG dX9_adopts_52 (kf_9_14 (rfl : kd 81 = 9)).1 (x_inE (kf_9_14 (rfl : kd 81 = 9)).2 hi3) ?_
    refine x_iinc (v := _) hG dX9_adopts_53 rfl (x_iincE (k := 1) (by decide)) (Nat.le_of_ble_eq_true rfl) rfl ?_
    refine x_goto (tgt := 34) hG dX9_adopts_56 (by decide) ?_
    refine x_keep [true, true] rfl ?_
    exact hr34 _ _ h
set_option maxRecDepth 100000 in
set_option maxHeartbeats 4000000 in
theorem c_X9_adopts {l : Launch} {a : Nat → Nat} {M : xMem} {post : xMem → Prop} (ha : xInj a) (h : w_X9_adopts M post) : ∀ D cs sz, xMetV l yX9_adopts wsX9_adopts rm_X9_adopts D a cs sz M [.ref (a 81)] post := by
  intro D cs sz
  unfold w_X9_adopts at h
  refine x_metV [some (.ref (a 81)), none] (by decide) rfl rfl (Nat.le_of_ble_eq_true rfl) rfl rfl ha D cs sz rfl (fun G e1 e2 hG hQ => ?_)
  subst e1
  subst e2
  refine x_aload_n hG dX9_adopts_0 rfl rfl ?_
  refine x_aload_n hG dX9_adopts_1 rfl rfl ?_
  refine x_get_9_12 hG dX9_adopts_2 (rfl : kd 81 = 9) hin_X9_adopts_X9 (List.mem_of_getElem? (i := 1) rfl) ?_
  have h := h _ rfl
  refine x_put_9_9 hG dX9_adopts_5 (rfl : kd 81 = 9) hin_X9_adopts_X9 (List.mem_of_getElem? (i := 2) rfl) ?_
  refine x_aload_n hG dX9_adopts_8 rfl rfl ?_
  refine x_aload_n hG dX9_adopts_9 rfl rfl ?_
  refine x_get_9_13 hG dX9_adopts_10 (rfl : kd 81 = 9) hin_X9_adopts_X9 (List.mem_of_getElem? (i := 3) rfl) ?_
  have h := h _ rfl
  refine x_put_9_10 hG dX9_adopts_13 (rfl : kd 81 = 9) hin_X9_adopts_X9 (List.mem_of_getElem? (i := 4) rfl) ?_
  refine x_aload_n hG dX9_adopts_16 rfl rfl ?_
  refine x_aload_n hG dX9_adopts_17 rfl rfl ?_
  refine x_get_9_22 hG dX9_adopts_18 (rfl : kd 81 = 9) hin_X9_adopts_X9 (List.mem_of_getElem? (i := 5) rfl) ?_
  have h := h _ rfl
  refine x_put_9_20 hG dX9_adopts_21 (rfl : kd 81 = 9) hin_X9_adopts_X9 (List.mem_of_getElem? (i := 6) rfl) ?_
  refine x_aload_n hG dX9_adopts_24 rfl rfl ?_
  refine x_aload_n hG dX9_adopts_25 rfl rfl ?_
  refine x_get_9_23 hG dX9_adopts_26 (rfl : kd 81 = 9) hin_X9_adopts_X9 (List.mem_of_getElem? (i := 7) rfl) ?_
  have h := h _ rfl
  refine x_put_9_21 hG dX9_adopts_29 (rfl : kd 81 = 9) hin_X9_adopts_X9 (List.mem_of_getElem? (i := 8) rfl) ?_
  refine x_iconst (v := (0 : Int32)) hG dX9_adopts_32 (by decide) ?_
  refine x_istore_n hG dX9_adopts_33 rfl (Nat.le_of_ble_eq_true rfl) rfl ?_
  refine x_keep [true, true] rfl ?_
  exact k_X9_adopts_34 hG hQ _ _ h
abbrev rm_X9_hill : Room := { frames := 8, cells := 0, slots := 0, locals := 186 }
theorem hy_X9_hill : yX9_hill.cls = RX9 ∧ yX9_hill.cls ≠ "java/lang/invoke/MethodHandle" ∧ yX9_hill.cls ≠ "java/lang/invoke/VarHandle" ∧ (parseMethodDescriptor yX9_hill.desc).map (fun d => d.parameters.length) = some 0 := by decide +kernel
theorem hin_X9_hill_X9 : ∀ w ∈ wsX90, w ∈ wsX9_hill := fun _ h => List.mem_cons_of_mem _ (List.mem_append_right _ h)
set_option maxRecDepth 100000 in
set_option maxHeartbeats 4000000 in
theorem k_X9_hill_180 {G : xG} {post : Int32 → xMem → Prop} (hG : xOk G cX9_hill RX9 wsX9_hill rm_X9_hill) (hQ : xRetI G post .int) : ∀ (M : xMem) (p1 : Int32), b_X9_hill_180 post M p1 → xW G M [some (.ref (xa G 81)), some (.int p1), none, none] [] 180 := by
  intro M p1 h
  unfold b_X9_hill_180 at h
  refine x_aload_n hG dX9_hill_180 rfl rfl ?_
  refine x_cVI0 hG dX9_hill_181 (fun ha => c_X9_isWell ha h) gX9_hill_X9_isWell rfl ⟨rfl, rfl⟩ hy_X9_isWell ⟨Nat.le_of_ble_eq_true rfl, Nat.le_of_ble_eq_true rfl⟩ (kd_lt (rfl : kd 81 = 9) (by decide)) (fun _ => xc_9 (rfl : kd 81 = 9)) rfl (Nat.le_of_ble_eq_true rfl) (fun z1 M2 h => ?_)
  refine x_if_ne (tgt := 195) hG dX9_hill_184 (by decide) (fun hc3 => ?_) (fun hc3 => ?_)
  · have h := h.1 hc3
    refine x_aload_n hG dX9_hill_195 rfl rfl ?_
    refine x_cVV0 hG dX9_hill_196 (fun ha => c_X9_adopts ha h) gX9_hill_X9_adopts rfl ⟨rfl, rfl⟩ hy_X9_adopts ⟨Nat.le_of_ble_eq_true rfl, Nat.le_of_ble_eq_true rfl⟩ (kd_lt (rfl : kd 81 = 9) (by decide)) (fun _ => xc_9 (rfl : kd 81 = 9)) rfl (Nat.le_of_ble_eq_true rfl) (fun M5 h => ?_)
    refine x_aload_n hG dX9_hill_199 rfl rfl ?_
    refine x_iconst (v := (0 : Int32)) hG dX9_hill_200 (by decide) ?_
    have h := h _ rfl
    refine x_put_9_3 hG dX9_hill_201 (rfl : kd 81 = 9) hin_X9_hill_X9 (List.mem_of_getElem? (i := 8) rfl) ?_
    refine x_iload_n hG dX9_hill_204 rfl rfl ?_
    exact x_iret hG hQ dX9_hill_205 rfl h
  · have h := h.2 hc3
    refine x_bipush (v := (-10 : Int32)) hG dX9_hill_187 (by decide) ?_
    refine x_aload_n hG dX9_hill_189 rfl rfl ?_
    refine x_get_9_8 hG dX9_hill_190 (rfl : kd 81 = 9) hin_X9_hill_X9 (List.mem_of_getElem? (i := 2) rfl) ?_
    refine x_isub hG dX9_hill_193 ?_
    exact x_iret hG hQ dX9_hill_194 rfl h
set_option maxRecDepth 100000 in
set_option maxHeartbeats 4000000 in
theorem k_X9_hill_170 {G : xG} {post : Int32 → xMem → Prop} (hG : xOk G cX9_hill RX9 wsX9_hill rm_X9_hill) (hQ : xRetI G post .int) {r25 : xMem → Int32 → Prop} (hr25 : ∀ (M : xMem) (p1 : Int32), r25 M p1 → xW G M [some (.ref (xa G 81)), some (.int p1), none, none] [] 25) : ∀ (M : xMem) (p1 : Int32) (s1 : Int32), b_X9_hill_170 post r25 M p1 s1 → xW G M [some (.ref (xa G 81)), some (.int p1), none, none] [.int s1, .ref (xa G 81)] 170 := by
  intro M p1 s1 h
  unfold b_X9_hill_170 at h
  refine x_cVI1 hG dX9_hill_170 (fun ha => c_X9_takes ha h) gX9_hill_X9_takes rfl ⟨rfl, rfl⟩ hy_X9_takes ⟨Nat.le_of_ble_eq_true rfl, Nat.le_of_ble_eq_true rfl⟩ (kd_lt (rfl : kd 81 = 9) (by decide)) (fun _ => xc_9 (rfl : kd 81 = 9)) rfl (Nat.le_of_ble_eq_true rfl) (fun z1 M2 h => ?_)
  refine x_pop hG dX9_hill_173 rfl ?_
  refine x_iinc (v := _) hG dX9_hill_174 rfl (x_iincE (k := 1) (by decide)) (Nat.le_of_ble_eq_true rfl) rfl ?_
  refine x_goto (tgt := 25) hG dX9_hill_177 (by decide) ?_
  refine x_keep [true, true, false, false] rfl ?_
  exact hr25 _ _ h
set_option maxRecDepth 100000 in
set_option maxHeartbeats 4000000 in
theorem k_X9_hill_156 {G : xG} {post : Int32 → xMem → Prop} (hG : xOk G cX9_hill RX9 wsX9_hill rm_X9_hill) (hQ : xRetI G post .int) {r25 : xMem → Int32 → Prop} (hr25 : ∀ (M : xMem) (p1 : Int32), r25 M p1 → xW G M [some (.ref (xa G 81)), some (.int p1), none, none] [] 25) : ∀ (M : xMem) (p1 : Int32), b_X9_hill_156 post r25 M p1 → xW G M [some (.ref (xa G 81)), some (.int p1), none, none] [] 156 := by
  intro M p1 h
  unfold b_X9_hill_156 at h
  refine x_aload_n hG dX9_hill_156 rfl rfl ?_
  refine x_aload_n hG dX9_hill_157 rfl rfl ?_
  refine x_get_9_5 hG dX9_hill_158 (rfl : kd 81 = 9) hin_X9_hill_X9 (List.mem_of_getElem? (i := 4) rfl) ?_
  refine x_iconst (v := (3 : Int32)) hG dX9_hill_161 (by decide) ?_
  refine x_icmp_ne (tgt := 169) hG dX9_hill_162 (by decide) (fun hc1 => ?_) (fun hc1 => ?_)
  · have h := h.1 hc1
    refine x_iconst (v := (0 : Int32)) hG dX9_hill_169 (by decide) ?_
    refine x_keep [true, true, false, false] rfl ?_
    exact k_X9_hill_170 hG hQ hr25 _ _ _ h
  · have h := h.2 hc1
    refine x_iconst (v := (1 : Int32)) hG dX9_hill_165 (by decide) ?_
    refine x_goto (tgt := 170) hG dX9_hill_166 (by decide) ?_
    refine x_keep [true, true, false, false] rfl ?_
    exact k_X9_hill_170 hG hQ hr25 _ _ _ h
set_option maxRecDepth 100000 in
set_option maxHeartbeats 4000000 in
theorem k_X9_hill_140 {G : xG} {post : Int32 → xMem → Prop} (hG : xOk G cX9_hill RX9 wsX9_hill rm_X9_hill) (hQ : xRetI G post .int) {r25 : xMem → Int32 → Prop} (hr25 : ∀ (M : xMem) (p1 : Int32), r25 M p1 → xW G M [some (.ref (xa G 81)), some (.int p1), none, none] [] 25) : ∀ (M : xMem) (p1 : Int32) (s1 : Int32), b_X9_hill_140 post r25 M p1 s1 → xW G M [some (.ref (xa G 81)), some (.int p1), none, none] [.int s1, .ref (xa G 81)] 140 := by
  intro M p1 s1 h
  unfold b_X9_hill_140 at h
  refine x_cVI1 hG dX9_hill_140 (fun ha => c_X9_takes ha h) gX9_hill_X9_takes rfl ⟨rfl, rfl⟩ hy_X9_takes ⟨Nat.le_of_ble_eq_true rfl, Nat.le_of_ble_eq_true rfl⟩ (kd_lt (rfl : kd 81 = 9) (by decide)) (fun _ => xc_9 (rfl : kd 81 = 9)) rfl (Nat.le_of_ble_eq_true rfl) (fun z1 M2 h => ?_)
  refine x_istore_n hG dX9_hill_143 rfl (Nat.le_of_ble_eq_true rfl) rfl ?_
  refine x_aload_n hG dX9_hill_144 rfl rfl ?_
  refine x_cVI0 hG dX9_hill_145 (fun ha => c_X9_isWell ha h) gX9_hill_X9_isWell rfl ⟨rfl, rfl⟩ hy_X9_isWell ⟨Nat.le_of_ble_eq_true rfl, Nat.le_of_ble_eq_true rfl⟩ (kd_lt (rfl : kd 81 = 9) (by decide)) (fun _ => xc_9 (rfl : kd 81 = 9)) rfl (Nat.le_of_ble_eq_true rfl) (fun z3 M4 h => ?_)
  refine x_if_eq (tgt := 156) hG dX9_hill_148 (by decide) (fun hc5 => ?_) (fun hc5 => ?_)
  · have h := h.1 hc5
    refine x_keep [true, true, false, false] rfl ?_
    exact k_X9_hill_156 hG hQ hr25 _ _ h
  · have h := h.2 hc5
    refine x_aload_n hG dX9_hill_151 rfl rfl ?_
    refine x_iload_n hG dX9_hill_152 rfl rfl ?_
    refine x_cVV1 hG dX9_hill_153 (fun ha => c_X9_readsItem ha h) gX9_hill_X9_readsItem rfl ⟨rfl, rfl⟩ hy_X9_readsItem ⟨Nat.le_of_ble_eq_true rfl, Nat.le_of_ble_eq_true rfl⟩ (kd_lt (rfl : kd 81 = 9) (by decide)) (fun _ => xc_9 (rfl : kd 81 = 9)) rfl (Nat.le_of_ble_eq_true rfl) (fun M7 h => ?_)
    refine x_keep [true, true, false, false] rfl ?_
    exact k_X9_hill_156 hG hQ hr25 _ _ h
set_option maxRecDepth 100000 in
set_option maxHeartbeats 4000000 in
theorem k_X9_hill_139 {G : xG} {post : Int32 → xMem → Prop} (hG : xOk G cX9_hill RX9 wsX9_hill rm_X9_hill) (hQ : xRetI G post .int) {r25 : xMem → Int32 → Prop} (hr25 : ∀ (M : xMem) (p1 : Int32), r25 M p1 → xW G M [some (.ref (xa G 81)), some (.int p1), none, none] [] 25) : ∀ (M : xMem) (p1 : Int32), b_X9_hill_139 post r25 M p1 → xW G M [some (.ref (xa G 81)), some (.int p1), none, none] [.ref (xa G 81)] 139 := by
  intro M p1 h
  unfold b_X9_hill_139 at h
  refine x_iconst (v := (0 : Int32)) hG dX9_hill_139 (by decide) ?_
  refine x_keep [true, true, false, false] rfl ?_
  exact k_X9_hill_140 hG hQ hr25 _ _ _ h
set_option maxRecDepth 100000 in
set_option maxHeartbeats 4000000 in
theorem k_X9_hill_121 {G : xG} {post : Int32 → xMem → Prop} (hG : xOk G cX9_hill RX9 wsX9_hill rm_X9_hill) (hQ : xRetI G post .int) {r25 : xMem → Int32 → Prop} (hr25 : ∀ (M : xMem) (p1 : Int32), r25 M p1 → xW G M [some (.ref (xa G 81)), some (.int p1), none, none] [] 25) : ∀ (M : xMem) (p1 : Int32) (s0 : Int32), b_X9_hill_121 post r25 M p1 s0 → xW G M [some (.ref (xa G 81)), some (.int p1), none, none] [.int s0] 121 := by
  intro M p1 s0 h
  unfold b_X9_hill_121 at h
  refine x_istore_n hG dX9_hill_121 rfl (Nat.le_of_ble_eq_true rfl) rfl ?_
  refine x_aload_n hG dX9_hill_122 rfl rfl ?_
  refine x_aload_n hG dX9_hill_123 rfl rfl ?_
  refine x_get_9_5 hG dX9_hill_124 (rfl : kd 81 = 9) hin_X9_hill_X9 (List.mem_of_getElem? (i := 4) rfl) ?_
  refine x_iconst (v := (1 : Int32)) hG dX9_hill_127 (by decide) ?_
  refine x_icmp_ne (tgt := 139) hG dX9_hill_128 (by decide) (fun hc1 => ?_) (fun hc1 => ?_)
  · have h := h.1 hc1
    refine x_keep [true, true, false, false] rfl ?_
    exact k_X9_hill_139 hG hQ hr25 _ _ h
  · have h := h.2 hc1
    refine x_iload_n hG dX9_hill_131 rfl rfl ?_
    refine x_if_eq (tgt := 139) hG dX9_hill_132 (by decide) (fun hc2 => ?_) (fun hc2 => ?_)
    · have h := h.1 hc2
      refine x_keep [true, true, false, false] rfl ?_
      exact k_X9_hill_139 hG hQ hr25 _ _ h
    · have h := h.2 hc2
      refine x_iconst (v := (1 : Int32)) hG dX9_hill_135 (by decide) ?_
      refine x_goto (tgt := 140) hG dX9_hill_136 (by decide) ?_
      refine x_keep [true, true, false, false] rfl ?_
      exact k_X9_hill_140 hG hQ hr25 _ _ _ h
set_option maxRecDepth 100000 in
set_option maxHeartbeats 4000000 in
theorem k_X9_hill_25 {G : xG} {post : Int32 → xMem → Prop} (hG : xOk G cX9_hill RX9 wsX9_hill rm_X9_hill) (hQ : xRetI G post .int) : ∀ (M : xMem) (p1 : Int32), xlp2 (b_X9_hill_25 post) M p1 → xW G M [some (.ref (xa G 81)), some (.int p1), none, none] [] 25 := by
  refine xlp2_W (W := fun M p1 => xW G M [some (.ref (xa G 81)), some (.int p1), none, none] [] 25) (fun r25 hr25 => ?_)
  intro M p1 h
  unfold b_X9_hill_25 at h
  refine x_aload_n hG dX9_hill_25 rfl rfl ?_
  refine x_cVI0 hG dX9_hill_26 (fun ha => c_X9_isWell ha h) gX9_hill_X9_isWell rfl ⟨rfl, rfl⟩ hy_X9_isWell ⟨Nat.le_of_ble_eq_true rfl, Nat.le_of_ble_eq_true rfl⟩ (kd_lt (rfl : kd 81 = 9) (by decide)) (fun _ => xc_9 (rfl : kd 81 = 9)) rfl (Nat.le_of_ble_eq_true rfl) (fun z1 M2 h => ?_)
  refine x_if_eq (tgt := 180) hG dX9_hill_29 (by decide) (fun hc3 => ?_) (fun hc3 => ?_)
  · have h := h.1 hc3
    refine x_keep [true, true, false, false] rfl ?_
    exact k_X9_hill_180 hG hQ _ _ h
  · have h := h.2 hc3
    refine x_aload_n hG dX9_hill_32 rfl rfl ?_
    refine x_get_9_5 hG dX9_hill_33 (rfl : kd 81 = 9) hin_X9_hill_X9 (List.mem_of_getElem? (i := 4) rfl) ?_
    refine x_if_eq (tgt := 180) hG dX9_hill_36 (by decide) (fun hc4 => ?_) (fun hc4 => ?_)
    · have h := h.1 hc4
      refine x_keep [true, true, false, false] rfl ?_
      exact k_X9_hill_180 hG hQ _ _ h
    · have h := h.2 hc4
      refine x_aload_n hG dX9_hill_39 rfl rfl ?_
      refine x_get_9_7 hG dX9_hill_40 (rfl : kd 81 = 9) hin_X9_hill_X9 (List.mem_of_getElem? (i := 5) rfl) ?_
      refine x_if_ne (tgt := 58) hG dX9_hill_43 (by decide) (fun hc5 => ?_) (fun hc5 => ?_)
      · have h := h.1 hc5
        refine x_aload_n hG dX9_hill_58 rfl rfl ?_
        refine x_get_9_7 hG dX9_hill_59 (rfl : kd 81 = 9) hin_X9_hill_X9 (List.mem_of_getElem? (i := 5) rfl) ?_
        refine x_iconst (v := (4 : Int32)) hG dX9_hill_62 (by decide) ?_
        refine x_icmp_ne (tgt := 83) hG dX9_hill_63 (by decide) (fun hc6 => ?_) (fun hc6 => ?_)
        · have h := h.1 hc6
          refine x_aload_n hG dX9_hill_83 rfl rfl ?_
          refine x_get_9_7 hG dX9_hill_84 (rfl : kd 81 = 9) hin_X9_hill_X9 (List.mem_of_getElem? (i := 5) rfl) ?_
          refine x_iconst (v := (5 : Int32)) hG dX9_hill_87 (by decide) ?_
          refine x_icmp_ne (tgt := 108) hG dX9_hill_88 (by decide) (fun hc7 => ?_) (fun hc7 => ?_)
          · have h := h.1 hc7
            refine x_aload_n hG dX9_hill_108 rfl rfl ?_
            refine x_get_9_7 hG dX9_hill_109 (rfl : kd 81 = 9) hin_X9_hill_X9 (List.mem_of_getElem? (i := 5) rfl) ?_
            refine x_iconst (v := (3 : Int32)) hG dX9_hill_112 (by decide) ?_
            refine x_icmp_gt (tgt := 120) hG dX9_hill_113 (by decide) (fun hc8 => ?_) (fun hc8 => ?_)
            · have h := h.1 hc8
              refine x_iconst (v := (0 : Int32)) hG dX9_hill_120 (by decide) ?_
              refine x_keep [true, true, false, false] rfl ?_
              exact k_X9_hill_121 hG hQ hr25 _ _ _ h
            · have h := h.2 hc8
              refine x_iconst (v := (1 : Int32)) hG dX9_hill_116 (by decide) ?_
              refine x_goto (tgt := 121) hG dX9_hill_117 (by decide) ?_
              refine x_keep [true, true, false, false] rfl ?_
              exact k_X9_hill_121 hG hQ hr25 _ _ _ h
          · have h := h.2 hc7
            refine x_aload_n hG dX9_hill_91 rfl rfl ?_
            refine x_get_9_23 hG dX9_hill_92 (rfl : kd 81 = 9) hin_X9_hill_X9 (List.mem_of_getElem? (i := 7) rfl) ?_
            refine x_bipush (v := (8 : Int32)) hG dX9_hill_95 (by decide) ?_
            refine x_icmp_ge (tgt := 104) hG dX9_hill_97 (by decide) (fun hc9 => ?_) (fun hc9 => ?_)
            · have h := h.1 hc9
              refine x_iconst (v := (0 : Int32)) hG dX9_hill_104 (by decide) ?_
              refine x_goto (tgt := 121) hG dX9_hill_105 (by decide) ?_
              refine x_keep [true, true, false, false] rfl ?_
              exact k_X9_hill_121 hG hQ hr25 _ _ _ h
            · have h := h.2 hc9
              refine x_iconst (v := (1 : Int32)) hG dX9_hill_100 (by decide) ?_
              refine x_goto (tgt := 121) hG dX9_hill_101 (by decide) ?_
              refine x_keep [true, true, false, false] rfl ?_
              exact k_X9_hill_121 hG hQ hr25 _ _ _ h
        · have h := h.2 hc6
          refine x_aload_n hG dX9_hill_66 rfl rfl ?_
          refine x_get_9_22 hG dX9_hill_67 (rfl : kd 81 = 9) hin_X9_hill_X9 (List.mem_of_getElem? (i := 6) rfl) ?_
          refine x_bipush (v := (6 : Int32)) hG dX9_hill_70 (by decide) ?_
          refine x_icmp_ge (tgt := 79) hG dX9_hill_72 (by decide) (fun hc10 => ?_) (fun hc10 => ?_)
          · have h := h.1 hc10
            refine x_iconst (v := (0 : Int32)) hG dX9_hill_79 (by decide) ?_
            refine x_goto (tgt := 121) hG dX9_hill_80 (by decide) ?_
            refine x_keep [true, true, false, false] rfl ?_
            exact k_X9_hill_121 hG hQ hr25 _ _ _ h
          · have h := h.2 hc10
            refine x_iconst (v := (1 : Int32)) hG dX9_hill_75 (by decide) ?_
            refine x_goto (tgt := 121) hG dX9_hill_76 (by decide) ?_
            refine x_keep [true, true, false, false] rfl ?_
            exact k_X9_hill_121 hG hQ hr25 _ _ _ h
      · have h := h.2 hc5
        refine x_iload_n hG dX9_hill_46 rfl rfl ?_
        refine x_if_ne (tgt := 54) hG dX9_hill_47 (by decide) (fun hc11 => ?_) (fun hc11 => ?_)
        · have h := h.1 hc11
          refine x_iconst (v := (0 : Int32)) hG dX9_hill_54 (by decide) ?_
          refine x_goto (tgt := 121) hG dX9_hill_55 (by decide) ?_
          refine x_keep [true, true, false, false] rfl ?_
          exact k_X9_hill_121 hG hQ hr25 _ _ _ h
        · have h := h.2 hc11
          refine x_iconst (v := (1 : Int32)) hG dX9_hill_50 (by decide) ?_
          refine x_goto (tgt := 121) hG dX9_hill_51 (by decide) ?_
          refine x_keep [true, true, false, false] rfl ?_
          exact k_X9_hill_121 hG hQ hr25 _ _ _ h
set_option maxRecDepth 100000 in
set_option maxHeartbeats 4000000 in
theorem c_X9_hill {l : Launch} {a : Nat → Nat} {M : xMem} {post : Int32 → xMem → Prop} (ha : xInj a) (h : w_X9_hill M post) : ∀ D cs sz, xMetI l yX9_hill wsX9_hill rm_X9_hill D a cs sz M [.ref (a 81)] post := by
  intro D cs sz
  unfold w_X9_hill at h
  refine x_metI (ty := .int) [some (.ref (a 81)), none, none, none] (by decide) rfl rfl (Nat.le_of_ble_eq_true rfl) rfl rfl ha D cs sz rfl (fun G e1 e2 hG hQ => ?_)
  subst e1
  subst e2
  refine x_aload_n hG dX9_hill_0 rfl rfl ?_
  refine x_iconst (v := (0 : Int32)) hG dX9_hill_1 (by decide) ?_
  have h := h _ rfl
  refine x_put_9_0 hG dX9_hill_2 (rfl : kd 81 = 9) hin_X9_hill_X9 (List.mem_of_getElem? (i := 1) rfl) ?_
  refine x_aload_n hG dX9_hill_5 rfl rfl ?_
  refine x_iconst (v := (-1 : Int32)) hG dX9_hill_6 (by decide) ?_
  have h := h _ rfl
  refine x_put_9_8 hG dX9_hill_7 (rfl : kd 81 = 9) hin_X9_hill_X9 (List.mem_of_getElem? (i := 2) rfl) ?_
  refine x_aload_n hG dX9_hill_10 rfl rfl ?_
  refine x_iconst (v := (0 : Int32)) hG dX9_hill_11 (by decide) ?_
  have h := h _ rfl
  refine x_put_9_4 hG dX9_hill_12 (rfl : kd 81 = 9) hin_X9_hill_X9 (List.mem_of_getElem? (i := 3) rfl) ?_
  refine x_iconst (v := (0 : Int32)) hG dX9_hill_15 (by decide) ?_
  refine x_istore_n hG dX9_hill_16 rfl (Nat.le_of_ble_eq_true rfl) rfl ?_
  refine x_aload_n hG dX9_hill_17 rfl rfl ?_
  refine x_cVV0 hG dX9_hill_18 (fun ha => c_X9_begins ha h) gX9_hill_X9_begins rfl ⟨rfl, rfl⟩ hy_X9_begins ⟨Nat.le_of_ble_eq_true rfl, Nat.le_of_ble_eq_true rfl⟩ (kd_lt (rfl : kd 81 = 9) (by decide)) (fun _ => xc_9 (rfl : kd 81 = 9)) rfl (Nat.le_of_ble_eq_true rfl) (fun M5 h => ?_)
  refine x_aload_n hG dX9_hill_21 rfl rfl ?_
  refine x_cVV0 hG dX9_hill_22 (fun ha => c_X9_advances ha h) gX9_hill_X9_advances rfl ⟨rfl, rfl⟩ hy_X9_advances ⟨Nat.le_of_ble_eq_true rfl, Nat.le_of_ble_eq_true rfl⟩ (kd_lt (rfl : kd 81 = 9) (by decide)) (fun _ => xc_9 (rfl : kd 81 = 9)) rfl (Nat.le_of_ble_eq_true rfl) (fun M7 h => ?_)
  refine x_keep [true, true, false, false] rfl ?_
  exact k_X9_hill_25 hG hQ _ _ h
abbrev rm_X9_isYard : Room := { frames := 1, cells := 0, slots := 0, locals := 22 }
theorem hy_X9_isYard : yX9_isYard.cls = RX9 ∧ yX9_isYard.cls ≠ "java/lang/invoke/MethodHandle" ∧ yX9_isYard.cls ≠ "java/lang/invoke/VarHandle" ∧ (parseMethodDescriptor yX9_isYard.desc).map (fun d => d.parameters.length) = some 1 := by decide +kernel
theorem hin_X9_isYard_X9 : ∀ w ∈ wsX90, w ∈ wsX9_isYard := fun _ h => List.mem_cons_of_mem _ (List.mem_append_right _ h)
set_option maxRecDepth 100000 in
set_option maxHeartbeats 4000000 in
theorem c_X9_isYard {l : Launch} {a : Nat → Nat} {M : xMem} {p1 : Int32} {post : Int32 → xMem → Prop} (ha : xInj a) (h : w_X9_isYard M p1 post) : ∀ D cs sz, xMetI l yX9_isYard wsX9_isYard rm_X9_isYard D a cs sz M [.ref (a 81), .int p1] post := by
  intro D cs sz
  unfold w_X9_isYard at h
  refine x_metI (ty := .boolean) [some (.ref (a 81)), some (.int p1)] (by decide) rfl rfl (Nat.le_of_ble_eq_true rfl) rfl rfl ha D cs sz rfl (fun G e1 e2 hG hQ => ?_)
  subst e1
  subst e2
  refine x_iload_n hG dX9_isYard_0 rfl rfl ?_
  refine x_iconst (v := (0 : Int32)) hG dX9_isYard_1 (by decide) ?_
  refine x_aload_n hG dX9_isYard_2 rfl rfl ?_
  refine x_get_9_9 hG dX9_isYard_3 (rfl : kd 81 = 9) hin_X9_isYard_X9 (List.mem_of_getElem? (i := 1) rfl) ?_
  refine x_aload_n hG dX9_isYard_6 rfl rfl ?_
  refine x_get_9_10 hG dX9_isYard_7 (rfl : kd 81 = 9) hin_X9_isYard_X9 (List.mem_of_getElem? (i := 2) rfl) ?_
  refine x_imul hG dX9_isYard_10 ?_
  refine x_iconst (v := (1 : Int32)) hG dX9_isYard_11 (by decide) ?_
  refine x_isub hG dX9_isYard_12 ?_
  refine x_cSI3 hG dX9_isYard_13 (fun ha => c_X9_in ha h) gX9_isYard_X9_in rfl ⟨rfl, rfl⟩ hy_X9_in ⟨Nat.le_of_ble_eq_true rfl, Nat.le_of_ble_eq_true rfl⟩ (Nat.le_of_ble_eq_true rfl) (fun z1 M2 h => ?_)
  exact x_iret hG hQ dX9_isYard_16 (x_nb h.1) h.2
abbrev rm_X9_isWorker : Room := { frames := 1, cells := 0, slots := 0, locals := 22 }
theorem hy_X9_isWorker : yX9_isWorker.cls = RX9 ∧ yX9_isWorker.cls ≠ "java/lang/invoke/MethodHandle" ∧ yX9_isWorker.cls ≠ "java/lang/invoke/VarHandle" ∧ (parseMethodDescriptor yX9_isWorker.desc).map (fun d => d.parameters.length) = some 1 := by decide +kernel
theorem hin_X9_isWorker_X9 : ∀ w ∈ wsX90, w ∈ wsX9_isWorker := fun _ h => List.mem_cons_of_mem _ (List.mem_append_right _ h)
set_option maxRecDepth 100000 in
set_option maxHeartbeats 4000000 in
theorem c_X9_isWorker {l : Launch} {a : Nat → Nat} {M : xMem} {p1 : Int32} {post : Int32 → xMem → Prop} (ha : xInj a) (h : w_X9_isWorker M p1 post) : ∀ D cs sz, xMetI l yX9_isWorker wsX9_isWorker rm_X9_isWorker D a cs sz M [.ref (a 81), .int p1] post := by
  intro D cs sz
  unfold w_X9_isWorker at h
  refine x_metI (ty := .boolean) [some (.ref (a 81)), some (.int p1)] (by decide) rfl rfl (Nat.le_of_ble_eq_true rfl) rfl rfl ha D cs sz rfl (fun G e1 e2 hG hQ => ?_)
  subst e1
  subst e2
  refine x_iload_n hG dX9_isWorker_0 rfl rfl ?_
  refine x_iconst (v := (0 : Int32)) hG dX9_isWorker_1 (by decide) ?_
  refine x_aload_n hG dX9_isWorker_2 rfl rfl ?_
  refine x_get_9_20 hG dX9_isWorker_3 (rfl : kd 81 = 9) hin_X9_isWorker_X9 (List.mem_of_getElem? (i := 1) rfl) ?_
  refine x_iconst (v := (1 : Int32)) hG dX9_isWorker_6 (by decide) ?_
  refine x_isub hG dX9_isWorker_7 ?_
  refine x_cSI3 hG dX9_isWorker_8 (fun ha => c_X9_in ha h) gX9_isWorker_X9_in rfl ⟨rfl, rfl⟩ hy_X9_in ⟨Nat.le_of_ble_eq_true rfl, Nat.le_of_ble_eq_true rfl⟩ (Nat.le_of_ble_eq_true rfl) (fun z1 M2 h => ?_)
  exact x_iret hG hQ dX9_isWorker_11 (x_nb h.1) h.2
abbrev rm_X9_areNeighbours : Room := { frames := 2, cells := 0, slots := 0, locals := 45 }
theorem hy_X9_areNeighbours : yX9_areNeighbours.cls = RX9 ∧ yX9_areNeighbours.cls ≠ "java/lang/invoke/MethodHandle" ∧ yX9_areNeighbours.cls ≠ "java/lang/invoke/VarHandle" ∧ (parseMethodDescriptor yX9_areNeighbours.desc).map (fun d => d.parameters.length) = some 2 := by decide +kernel
theorem hin_X9_areNeighbours_X9 : ∀ w ∈ wsX90, w ∈ wsX9_areNeighbours := fun _ h => List.mem_cons_of_mem _ (List.mem_append_right _ h)
set_option maxRecDepth 100000 in
set_option maxHeartbeats 4000000 in
theorem c_X9_areNeighbours {l : Launch} {a : Nat → Nat} {M : xMem} {p1 : Int32} {p2 : Int32} {post : Int32 → xMem → Prop} (ha : xInj a) (h : w_X9_areNeighbours M p1 p2 post) : ∀ D cs sz, xMetI l yX9_areNeighbours wsX9_areNeighbours rm_X9_areNeighbours D a cs sz M [.ref (a 81), .int p1, .int p2] post := by
  intro D cs sz
  unfold w_X9_areNeighbours at h
  refine x_metI (ty := .boolean) [some (.ref (a 81)), some (.int p1), some (.int p2)] (by decide) rfl rfl (Nat.le_of_ble_eq_true rfl) rfl rfl ha D cs sz rfl (fun G e1 e2 hG hQ => ?_)
  subst e1
  subst e2
  refine x_aload_n hG dX9_areNeighbours_0 rfl rfl ?_
  refine x_iload_n hG dX9_areNeighbours_1 rfl rfl ?_
  refine x_cVI1 hG dX9_areNeighbours_2 (fun ha => c_X9_isYard ha h) gX9_areNeighbours_X9_isYard rfl ⟨rfl, rfl⟩ hy_X9_isYard ⟨Nat.le_of_ble_eq_true rfl, Nat.le_of_ble_eq_true rfl⟩ (kd_lt (rfl : kd 81 = 9) (by decide)) (fun _ => xc_9 (rfl : kd 81 = 9)) rfl (Nat.le_of_ble_eq_true rfl) (fun z1 M2 h => ?_)
  refine x_if_eq (tgt := 32) hG dX9_areNeighbours_5 (by decide) (fun hc3 => ?_) (fun hc3 => ?_)
  · have h := h.1 hc3
    refine x_iconst (v := (0 : Int32)) hG dX9_areNeighbours_32 (by decide) ?_
    exact x_iret hG hQ dX9_areNeighbours_33 rfl h
  · have h := h.2 hc3
    refine x_aload_n hG dX9_areNeighbours_8 rfl rfl ?_
    refine x_iload_n hG dX9_areNeighbours_9 rfl rfl ?_
    refine x_cVI1 hG dX9_areNeighbours_10 (fun ha => c_X9_isYard ha h) gX9_areNeighbours_X9_isYard rfl ⟨rfl, rfl⟩ hy_X9_isYard ⟨Nat.le_of_ble_eq_true rfl, Nat.le_of_ble_eq_true rfl⟩ (kd_lt (rfl : kd 81 = 9) (by decide)) (fun _ => xc_9 (rfl : kd 81 = 9)) rfl (Nat.le_of_ble_eq_true rfl) (fun z4 M5 h => ?_)
    refine x_if_eq (tgt := 32) hG dX9_areNeighbours_13 (by decide) (fun hc6 => ?_) (fun hc6 => ?_)
    · have h := h.1 hc6
      refine x_iconst (v := (0 : Int32)) hG dX9_areNeighbours_32 (by decide) ?_
      exact x_iret hG hQ dX9_areNeighbours_33 rfl h
    · have h := h.2 hc6
      refine x_iload_n hG dX9_areNeighbours_16 rfl rfl ?_
      refine x_iload_n hG dX9_areNeighbours_17 rfl rfl ?_
      refine x_aload_n hG dX9_areNeighbours_18 rfl rfl ?_
      refine x_get_9_9 hG dX9_areNeighbours_19 (rfl : kd 81 = 9) hin_X9_areNeighbours_X9 (List.mem_of_getElem? (i := 1) rfl) ?_
      refine x_cSI3 hG dX9_areNeighbours_22 (fun ha => c_X9_areBeside ha h) gX9_areNeighbours_X9_areBeside rfl ⟨rfl, rfl⟩ hy_X9_areBeside ⟨Nat.le_of_ble_eq_true rfl, Nat.le_of_ble_eq_true rfl⟩ (Nat.le_of_ble_eq_true rfl) (fun z7 M8 h => ?_)
      refine x_if_eq (tgt := 32) hG dX9_areNeighbours_25 (by decide) (fun hc9 => ?_) (fun hc9 => ?_)
      · have h := h.1 hc9
        refine x_iconst (v := (0 : Int32)) hG dX9_areNeighbours_32 (by decide) ?_
        exact x_iret hG hQ dX9_areNeighbours_33 rfl h
      · have h := h.2 hc9
        refine x_iconst (v := (1 : Int32)) hG dX9_areNeighbours_28 (by decide) ?_
        refine x_goto (tgt := 33) hG dX9_areNeighbours_29 (by decide) ?_
        exact x_iret hG hQ dX9_areNeighbours_33 rfl h
abbrev rm_X9_between : Room := { frames := 3, cells := 0, slots := 0, locals := 67 }
theorem hy_X9_between : yX9_between.cls = RX9 ∧ yX9_between.cls ≠ "java/lang/invoke/MethodHandle" ∧ yX9_between.cls ≠ "java/lang/invoke/VarHandle" ∧ (parseMethodDescriptor yX9_between.desc).map (fun d => d.parameters.length) = some 3 := by decide +kernel
theorem hin_X9_between_X9 : ∀ w ∈ wsX90, w ∈ wsX9_between := fun _ h => List.mem_cons_of_mem _ (List.mem_append_right _ h)
set_option maxRecDepth 100000 in
set_option maxHeartbeats 4000000 in
theorem k_X9_between_43 {G : xG} {post : Int32 → xMem → Prop} (hG : xOk G cX9_between RX9 wsX9_between rm_X9_between) (hQ : xRetI G post .int) : ∀ (M : xMem) (s0 : Nat) (s1 : Int32) (s2 : Int32) (s3 : Int32) (s4 : Int32), b_X9_between_43 post M s0 s1 s2 s3 s4 → xW G M [none, none, none, none] [.int s4, .int s3, .int s2, .int s1, .ref (xa G s0)] 43 := by
  intro M s0 s1 s2 s3 s4 h
  unfold b_X9_between_43 at h
  refine x_cSI4 hG dX9_between_43 (fun ha => c_X9_spotOf ha h) gX9_between_X9_spotOf rfl ⟨rfl, rfl⟩ hy_X9_spotOf ⟨Nat.le_of_ble_eq_true rfl, Nat.le_of_ble_eq_true rfl⟩ (Nat.le_of_ble_eq_true rfl) (fun z1 M2 h => ?_)
  obtain ⟨hk3, h⟩ := h
  obtain ⟨hi4, h⟩ := h
  refine x_iaload hG dX9_between_46 hk3 hi4 ?_
  refine x_goto (tgt := 51) hG dX9_between_47 (by decide) ?_
  exact x_iret hG hQ dX9_between_51 rfl h
set_option maxRecDepth 100000 in
set_option maxHeartbeats 4000000 in
theorem c_X9_between {l : Launch} {a : Nat → Nat} {M : xMem} {p1 : Int32} {p2 : Int32} {p3 : Int32} {post : Int32 → xMem → Prop} (ha : xInj a) (h : w_X9_between M p1 p2 p3 post) : ∀ D cs sz, xMetI l yX9_between wsX9_between rm_X9_between D a cs sz M [.ref (a 81), .int p1, .int p2, .int p3] post := by
  intro D cs sz
  unfold w_X9_between at h
  refine x_metI (ty := .int) [some (.ref (a 81)), some (.int p1), some (.int p2), some (.int p3)] (by decide) rfl rfl (Nat.le_of_ble_eq_true rfl) rfl rfl ha D cs sz rfl (fun G e1 e2 hG hQ => ?_)
  subst e1
  subst e2
  refine x_aload_n hG dX9_between_0 rfl rfl ?_
  refine x_iconst (v := (0 : Int32)) hG dX9_between_1 (by decide) ?_
  have h := h _ rfl
  refine x_put_9_0 hG dX9_between_2 (rfl : kd 81 = 9) hin_X9_between_X9 (List.mem_of_getElem? (i := 1) rfl) ?_
  refine x_aload_n hG dX9_between_5 rfl rfl ?_
  refine x_iload_n hG dX9_between_6 rfl rfl ?_
  refine x_iload_n hG dX9_between_7 rfl rfl ?_
  refine x_cVI2 hG dX9_between_8 (fun ha => c_X9_areNeighbours ha h) gX9_between_X9_areNeighbours rfl ⟨rfl, rfl⟩ hy_X9_areNeighbours ⟨Nat.le_of_ble_eq_true rfl, Nat.le_of_ble_eq_true rfl⟩ (kd_lt (rfl : kd 81 = 9) (by decide)) (fun _ => xc_9 (rfl : kd 81 = 9)) rfl (Nat.le_of_ble_eq_true rfl) (fun z2 M3 h => ?_)
  refine x_if_eq (tgt := 50) hG dX9_between_11 (by decide) (fun hc4 => ?_) (fun hc4 => ?_)
  · have h := h.1 hc4
    refine x_iconst (v := (-1 : Int32)) hG dX9_between_50 (by decide) ?_
    exact x_iret hG hQ dX9_between_51 rfl h
  · have h := h.2 hc4
    refine x_iload_n hG dX9_between_14 rfl rfl ?_
    refine x_iconst (v := (0 : Int32)) hG dX9_between_15 (by decide) ?_
    refine x_iconst (v := (1 : Int32)) hG dX9_between_16 (by decide) ?_
    refine x_cSI3 hG dX9_between_17 (fun ha => c_X9_in ha h) gX9_between_X9_in rfl ⟨rfl, rfl⟩ hy_X9_in ⟨Nat.le_of_ble_eq_true rfl, Nat.le_of_ble_eq_true rfl⟩ (Nat.le_of_ble_eq_true rfl) (fun z5 M6 h => ?_)
    refine x_if_eq (tgt := 50) hG dX9_between_20 (by decide) (fun hc7 => ?_) (fun hc7 => ?_)
    · have h := h.1 hc7
      refine x_iconst (v := (-1 : Int32)) hG dX9_between_50 (by decide) ?_
      exact x_iret hG hQ dX9_between_51 rfl h
    · have h := h.2 hc7
      refine x_aload_n hG dX9_between_23 rfl rfl ?_
      refine x_get_9_14 hG dX9_between_24 (rfl : kd 81 = 9) hin_X9_between_X9 (List.mem_of_getElem? (i := 2) rfl) ?_
      refine x_iload_n hG dX9_between_27 rfl rfl ?_
      refine x_iload_n hG dX9_between_28 rfl rfl ?_
      refine x_aload_n hG dX9_between_29 rfl rfl ?_
      refine x_get_9_9 hG dX9_between_30 (rfl : kd 81 = 9) hin_X9_between_X9 (List.mem_of_getElem? (i := 3) rfl) ?_
      refine x_iload_n hG dX9_between_33 rfl rfl ?_
      refine x_if_ne (tgt := 41) hG dX9_between_34 (by decide) (fun hc8 => ?_) (fun hc8 => ?_)
      · have h := h.1 hc8
        refine x_bipush (v := (96 : Int32)) hG dX9_between_41 (by decide) ?_
        refine x_keep [false, false, false, false] rfl ?_
        exact k_X9_between_43 hG hQ _ _ _ _ _ _ h
      · have h := h.2 hc8
        refine x_iconst (v := (0 : Int32)) hG dX9_between_37 (by decide) ?_
        refine x_goto (tgt := 43) hG dX9_between_38 (by decide) ?_
        refine x_keep [false, false, false, false] rfl ?_
        exact k_X9_between_43 hG hQ _ _ _ _ _ _ h
abbrev rm_X9_build : Room := { frames := 3, cells := 0, slots := 0, locals := 67 }
theorem hy_X9_build : yX9_build.cls = RX9 ∧ yX9_build.cls ≠ "java/lang/invoke/MethodHandle" ∧ yX9_build.cls ≠ "java/lang/invoke/VarHandle" ∧ (parseMethodDescriptor yX9_build.desc).map (fun d => d.parameters.length) = some 4 := by decide +kernel
theorem hin_X9_build_X9 : ∀ w ∈ wsX90, w ∈ wsX9_build := fun _ h => List.mem_cons_of_mem _ (List.mem_append_right _ h)
set_option maxRecDepth 100000 in
set_option maxHeartbeats 4000000 in
theorem k_X9_build_60 {G : xG} {post : Int32 → xMem → Prop} (hG : xOk G cX9_build RX9 wsX9_build rm_X9_build) (hQ : xRetI G post .int) : ∀ (M : xMem) (p4 : Int32) (s0 : Int32) (s1 : Int32) (s2 : Int32) (s3 : Int32), b_X9_build_60 post M p4 s0 s1 s2 s3 → xW G M [some (.ref (xa G 81)), none, none, none, some (.int p4), none, none] [.int s3, .int s2, .int s1, .int s0] 60 := by
  intro M p4 s0 s1 s2 s3 h
  unfold b_X9_build_60 at h
  refine x_cSI4 hG dX9_build_60 (fun ha => c_X9_spotOf ha h) gX9_build_X9_spotOf rfl ⟨rfl, rfl⟩ hy_X9_spotOf ⟨Nat.le_of_ble_eq_true rfl, Nat.le_of_ble_eq_true rfl⟩ (Nat.le_of_ble_eq_true rfl) (fun z1 M2 h => ?_)
  refine x_istore hG dX9_build_63 (Nat.le_of_ble_eq_true rfl) rfl ?_
  refine x_aload_n hG dX9_build_65 rfl rfl ?_
  refine x_get_9_14 hG dX9_build_66 (rfl : kd 81 = 9) hin_X9_build_X9 (List.mem_of_getElem? (i := 3) rfl) ?_
  refine x_iload hG dX9_build_69 rfl ?_
  obtain ⟨hi3, h⟩ := h
  refine x_iaload hG dX9_build_71 (kf_9_14 (rfl : kd 81 = 9)).1 (x_inE (kf_9_14 (rfl : kd 81 = 9)).2 hi3) ?_
  refine x_istore hG dX9_build_72 (Nat.le_of_ble_eq_true rfl) rfl ?_
  refine x_aload_n hG dX9_build_74 rfl rfl ?_
  refine x_get_9_14 hG dX9_build_75 (rfl : kd 81 = 9) hin_X9_build_X9 (List.mem_of_getElem? (i := 3) rfl) ?_
  refine x_iload hG dX9_build_78 rfl ?_
  refine x_iload hG dX9_build_80 rfl ?_
  have h := h _ rfl
  refine x_iastore hG dX9_build_82 (kf_9_14 (rfl : kd 81 = 9)).1 (x_inE (kf_9_14 (rfl : kd 81 = 9)).2 hi3) ?_
  refine x_iload hG dX9_build_83 rfl ?_
  exact x_iret hG hQ dX9_build_85 rfl h
set_option maxRecDepth 100000 in
set_option maxHeartbeats 4000000 in
theorem k_X9_build_36 {G : xG} {post : Int32 → xMem → Prop} (hG : xOk G cX9_build RX9 wsX9_build rm_X9_build) (hQ : xRetI G post .int) : ∀ (M : xMem) (p1 : Int32) (p2 : Int32) (p3 : Int32) (p4 : Int32) (s0 : Int32) (s1 : Int32) (s2 : Int32), b_X9_build_36 post M p1 p2 p3 p4 s0 s1 s2 → xW G M [some (.ref (xa G 81)), some (.int p1), some (.int p2), some (.int p3), some (.int p4), none, none] [.int s2, .int s1, .int s0] 36 := by
  intro M p1 p2 p3 p4 s0 s1 s2 h
  unfold b_X9_build_36 at h
  refine x_cSI3 hG dX9_build_36 (fun ha => c_X9_in ha h) gX9_build_X9_in rfl ⟨rfl, rfl⟩ hy_X9_in ⟨Nat.le_of_ble_eq_true rfl, Nat.le_of_ble_eq_true rfl⟩ (Nat.le_of_ble_eq_true rfl) (fun z1 M2 h => ?_)
  refine x_if_ne (tgt := 44) hG dX9_build_39 (by decide) (fun hc3 => ?_) (fun hc3 => ?_)
  · have h := h.1 hc3
    refine x_iload_n hG dX9_build_44 rfl rfl ?_
    refine x_iload_n hG dX9_build_45 rfl rfl ?_
    refine x_aload_n hG dX9_build_46 rfl rfl ?_
    refine x_get_9_9 hG dX9_build_47 (rfl : kd 81 = 9) hin_X9_build_X9 (List.mem_of_getElem? (i := 2) rfl) ?_
    refine x_iload_n hG dX9_build_50 rfl rfl ?_
    refine x_if_ne (tgt := 58) hG dX9_build_51 (by decide) (fun hc4 => ?_) (fun hc4 => ?_)
    · have h := h.1 hc4
      refine x_bipush (v := (96 : Int32)) hG dX9_build_58 (by decide) ?_
      refine x_keep [true, false, false, false, true, false, false] rfl ?_
      exact k_X9_build_60 hG hQ _ _ _ _ _ _ h
    · have h := h.2 hc4
      refine x_iconst (v := (0 : Int32)) hG dX9_build_54 (by decide) ?_
      refine x_goto (tgt := 60) hG dX9_build_55 (by decide) ?_
      refine x_keep [true, false, false, false, true, false, false] rfl ?_
      exact k_X9_build_60 hG hQ _ _ _ _ _ _ h
  · have h := h.2 hc3
    refine x_iconst (v := (-1 : Int32)) hG dX9_build_42 (by decide) ?_
    exact x_iret hG hQ dX9_build_43 rfl h
set_option maxRecDepth 100000 in
set_option maxHeartbeats 4000000 in
theorem c_X9_build {l : Launch} {a : Nat → Nat} {M : xMem} {p1 : Int32} {p2 : Int32} {p3 : Int32} {p4 : Int32} {post : Int32 → xMem → Prop} (ha : xInj a) (h : w_X9_build M p1 p2 p3 p4 post) : ∀ D cs sz, xMetI l yX9_build wsX9_build rm_X9_build D a cs sz M [.ref (a 81), .int p1, .int p2, .int p3, .int p4] post := by
  intro D cs sz
  unfold w_X9_build at h
  refine x_metI (ty := .int) [some (.ref (a 81)), some (.int p1), some (.int p2), some (.int p3), some (.int p4), none, none] (by decide) rfl rfl (Nat.le_of_ble_eq_true rfl) rfl rfl ha D cs sz rfl (fun G e1 e2 hG hQ => ?_)
  subst e1
  subst e2
  refine x_aload_n hG dX9_build_0 rfl rfl ?_
  refine x_iconst (v := (0 : Int32)) hG dX9_build_1 (by decide) ?_
  have h := h _ rfl
  refine x_put_9_0 hG dX9_build_2 (rfl : kd 81 = 9) hin_X9_build_X9 (List.mem_of_getElem? (i := 1) rfl) ?_
  refine x_aload_n hG dX9_build_5 rfl rfl ?_
  refine x_iload_n hG dX9_build_6 rfl rfl ?_
  refine x_iload_n hG dX9_build_7 rfl rfl ?_
  refine x_cVI2 hG dX9_build_8 (fun ha => c_X9_areNeighbours ha h) gX9_build_X9_areNeighbours rfl ⟨rfl, rfl⟩ hy_X9_areNeighbours ⟨Nat.le_of_ble_eq_true rfl, Nat.le_of_ble_eq_true rfl⟩ (kd_lt (rfl : kd 81 = 9) (by decide)) (fun _ => xc_9 (rfl : kd 81 = 9)) rfl (Nat.le_of_ble_eq_true rfl) (fun z2 M3 h => ?_)
  refine x_if_eq (tgt := 42) hG dX9_build_11 (by decide) (fun hc4 => ?_) (fun hc4 => ?_)
  · have h := h.1 hc4
    refine x_iconst (v := (-1 : Int32)) hG dX9_build_42 (by decide) ?_
    exact x_iret hG hQ dX9_build_43 rfl h
  · have h := h.2 hc4
    refine x_iload_n hG dX9_build_14 rfl rfl ?_
    refine x_iconst (v := (0 : Int32)) hG dX9_build_15 (by decide) ?_
    refine x_iconst (v := (1 : Int32)) hG dX9_build_16 (by decide) ?_
    refine x_cSI3 hG dX9_build_17 (fun ha => c_X9_in ha h) gX9_build_X9_in rfl ⟨rfl, rfl⟩ hy_X9_in ⟨Nat.le_of_ble_eq_true rfl, Nat.le_of_ble_eq_true rfl⟩ (Nat.le_of_ble_eq_true rfl) (fun z5 M6 h => ?_)
    refine x_if_eq (tgt := 42) hG dX9_build_20 (by decide) (fun hc7 => ?_) (fun hc7 => ?_)
    · have h := h.1 hc7
      refine x_iconst (v := (-1 : Int32)) hG dX9_build_42 (by decide) ?_
      exact x_iret hG hQ dX9_build_43 rfl h
    · have h := h.2 hc7
      refine x_iload hG dX9_build_23 rfl ?_
      refine x_iconst (v := (0 : Int32)) hG dX9_build_25 (by decide) ?_
      refine x_iload_n hG dX9_build_26 rfl rfl ?_
      refine x_if_ne (tgt := 34) hG dX9_build_27 (by decide) (fun hc8 => ?_) (fun hc8 => ?_)
      · have h := h.1 hc8
        refine x_bipush (v := (9 : Int32)) hG dX9_build_34 (by decide) ?_
        refine x_keep [true, true, true, true, true, false, false] rfl ?_
        exact k_X9_build_36 hG hQ _ _ _ _ _ _ _ _ h
      · have h := h.2 hc8
        refine x_iconst (v := (3 : Int32)) hG dX9_build_30 (by decide) ?_
        refine x_goto (tgt := 36) hG dX9_build_31 (by decide) ?_
        refine x_keep [true, true, true, true, true, false, false] rfl ?_
        exact k_X9_build_36 hG hQ _ _ _ _ _ _ _ _ h
abbrev rm_X9_wind : Room := { frames := 1, cells := 0, slots := 0, locals := 22 }
theorem hy_X9_wind : yX9_wind.cls = RX9 ∧ yX9_wind.cls ≠ "java/lang/invoke/MethodHandle" ∧ yX9_wind.cls ≠ "java/lang/invoke/VarHandle" ∧ (parseMethodDescriptor yX9_wind.desc).map (fun d => d.parameters.length) = some 2 := by decide +kernel
theorem hin_X9_wind_X9 : ∀ w ∈ wsX90, w ∈ wsX9_wind := fun _ h => List.mem_cons_of_mem _ (List.mem_append_right _ h)
set_option maxRecDepth 100000 in
set_option maxHeartbeats 4000000 in
theorem c_X9_wind {l : Launch} {a : Nat → Nat} {M : xMem} {p1 : Int32} {p2 : Int32} {post : Int32 → xMem → Prop} (ha : xInj a) (h : w_X9_wind M p1 p2 post) : ∀ D cs sz, xMetI l yX9_wind wsX9_wind rm_X9_wind D a cs sz M [.ref (a 81), .int p1, .int p2] post := by
  intro D cs sz
  unfold w_X9_wind at h
  refine x_metI (ty := .int) [some (.ref (a 81)), some (.int p1), some (.int p2)] (by decide) rfl rfl (Nat.le_of_ble_eq_true rfl) rfl rfl ha D cs sz rfl (fun G e1 e2 hG hQ => ?_)
  subst e1
  subst e2
  refine x_aload_n hG dX9_wind_0 rfl rfl ?_
  refine x_iconst (v := (0 : Int32)) hG dX9_wind_1 (by decide) ?_
  have h := h _ rfl
  refine x_put_9_0 hG dX9_wind_2 (rfl : kd 81 = 9) hin_X9_wind_X9 (List.mem_of_getElem? (i := 1) rfl) ?_
  refine x_iload_n hG dX9_wind_5 rfl rfl ?_
  refine x_bipush (v := (-2 : Int32)) hG dX9_wind_6 (by decide) ?_
  refine x_iconst (v := (2 : Int32)) hG dX9_wind_8 (by decide) ?_
  refine x_cSI3 hG dX9_wind_9 (fun ha => c_X9_in ha h) gX9_wind_X9_in rfl ⟨rfl, rfl⟩ hy_X9_in ⟨Nat.le_of_ble_eq_true rfl, Nat.le_of_ble_eq_true rfl⟩ (Nat.le_of_ble_eq_true rfl) (fun z2 M3 h => ?_)
  refine x_if_eq (tgt := 25) hG dX9_wind_12 (by decide) (fun hc4 => ?_) (fun hc4 => ?_)
  · have h := h.1 hc4
    refine x_iconst (v := (-1 : Int32)) hG dX9_wind_25 (by decide) ?_
    exact x_iret hG hQ dX9_wind_26 rfl h
  · have h := h.2 hc4
    refine x_iload_n hG dX9_wind_15 rfl rfl ?_
    refine x_bipush (v := (-2 : Int32)) hG dX9_wind_16 (by decide) ?_
    refine x_iconst (v := (2 : Int32)) hG dX9_wind_18 (by decide) ?_
    refine x_cSI3 hG dX9_wind_19 (fun ha => c_X9_in ha h) gX9_wind_X9_in rfl ⟨rfl, rfl⟩ hy_X9_in ⟨Nat.le_of_ble_eq_true rfl, Nat.le_of_ble_eq_true rfl⟩ (Nat.le_of_ble_eq_true rfl) (fun z5 M6 h => ?_)
    refine x_if_ne (tgt := 27) hG dX9_wind_22 (by decide) (fun hc7 => ?_) (fun hc7 => ?_)
    · have h := h.1 hc7
      refine x_aload_n hG dX9_wind_27 rfl rfl ?_
      refine x_get_9_14 hG dX9_wind_28 (rfl : kd 81 = 9) hin_X9_wind_X9 (List.mem_of_getElem? (i := 2) rfl) ?_
      refine x_sipush (v := (192 : Int32)) hG dX9_wind_31 (by decide) ?_
      refine x_iload_n hG dX9_wind_34 rfl rfl ?_
      have h := h _ rfl
      refine x_iastore hG dX9_wind_35 (kf_9_14 (rfl : kd 81 = 9)).1 (x_inE (kf_9_14 (rfl : kd 81 = 9)).2 (x_inC (by decide))) ?_
      refine x_aload_n hG dX9_wind_36 rfl rfl ?_
      refine x_get_9_14 hG dX9_wind_37 (rfl : kd 81 = 9) hin_X9_wind_X9 (List.mem_of_getElem? (i := 2) rfl) ?_
      refine x_sipush (v := (193 : Int32)) hG dX9_wind_40 (by decide) ?_
      refine x_iload_n hG dX9_wind_43 rfl rfl ?_
      have h := h _ rfl
      refine x_iastore hG dX9_wind_44 (kf_9_14 (rfl : kd 81 = 9)).1 (x_inE (kf_9_14 (rfl : kd 81 = 9)).2 (x_inC (by decide))) ?_
      refine x_iconst (v := (1 : Int32)) hG dX9_wind_45 (by decide) ?_
      exact x_iret hG hQ dX9_wind_46 rfl h
    · have h := h.2 hc7
      refine x_iconst (v := (-1 : Int32)) hG dX9_wind_25 (by decide) ?_
      exact x_iret hG hQ dX9_wind_26 rfl h
abbrev rm_X9_fade : Room := { frames := 1, cells := 0, slots := 0, locals := 22 }
theorem hy_X9_fade : yX9_fade.cls = RX9 ∧ yX9_fade.cls ≠ "java/lang/invoke/MethodHandle" ∧ yX9_fade.cls ≠ "java/lang/invoke/VarHandle" ∧ (parseMethodDescriptor yX9_fade.desc).map (fun d => d.parameters.length) = some 1 := by decide +kernel
theorem hin_X9_fade_X9 : ∀ w ∈ wsX90, w ∈ wsX9_fade := fun _ h => List.mem_cons_of_mem _ (List.mem_append_right _ h)
set_option maxRecDepth 100000 in
set_option maxHeartbeats 4000000 in
theorem c_X9_fade {l : Launch} {a : Nat → Nat} {M : xMem} {p1 : Int32} {post : Int32 → xMem → Prop} (ha : xInj a) (h : w_X9_fade M p1 post) : ∀ D cs sz, xMetI l yX9_fade wsX9_fade rm_X9_fade D a cs sz M [.ref (a 81), .int p1] post := by
  intro D cs sz
  unfold w_X9_fade at h
  refine x_metI (ty := .int) [some (.ref (a 81)), some (.int p1), none] (by decide) rfl rfl (Nat.le_of_ble_eq_true rfl) rfl rfl ha D cs sz rfl (fun G e1 e2 hG hQ => ?_)
  subst e1
  subst e2
  refine x_aload_n hG dX9_fade_0 rfl rfl ?_
  refine x_iconst (v := (0 : Int32)) hG dX9_fade_1 (by decide) ?_
  have h := h _ rfl
  refine x_put_9_0 hG dX9_fade_2 (rfl : kd 81 = 9) hin_X9_fade_X9 (List.mem_of_getElem? (i := 1) rfl) ?_
  refine x_iload_n hG dX9_fade_5 rfl rfl ?_
  refine x_iconst (v := (1 : Int32)) hG dX9_fade_6 (by decide) ?_
  refine x_bipush (v := (9 : Int32)) hG dX9_fade_7 (by decide) ?_
  refine x_cSI3 hG dX9_fade_9 (fun ha => c_X9_in ha h) gX9_fade_X9_in rfl ⟨rfl, rfl⟩ hy_X9_in ⟨Nat.le_of_ble_eq_true rfl, Nat.le_of_ble_eq_true rfl⟩ (Nat.le_of_ble_eq_true rfl) (fun z2 M3 h => ?_)
  refine x_if_ne (tgt := 17) hG dX9_fade_12 (by decide) (fun hc4 => ?_) (fun hc4 => ?_)
  · have h := h.1 hc4
    refine x_aload_n hG dX9_fade_17 rfl rfl ?_
    refine x_get_9_11 hG dX9_fade_18 (rfl : kd 81 = 9) hin_X9_fade_X9 (List.mem_of_getElem? (i := 2) rfl) ?_
    refine x_istore_n hG dX9_fade_21 rfl (Nat.le_of_ble_eq_true rfl) rfl ?_
    refine x_aload_n hG dX9_fade_22 rfl rfl ?_
    refine x_iload_n hG dX9_fade_23 rfl rfl ?_
    have h := h _ rfl
    refine x_put_9_11 hG dX9_fade_24 (rfl : kd 81 = 9) hin_X9_fade_X9 (List.mem_of_getElem? (i := 2) rfl) ?_
    refine x_iload_n hG dX9_fade_27 rfl rfl ?_
    exact x_iret hG hQ dX9_fade_28 rfl h
  · have h := h.2 hc4
    refine x_iconst (v := (-1 : Int32)) hG dX9_fade_15 (by decide) ?_
    exact x_iret hG hQ dX9_fade_16 rfl h
