abbrev rm_X0_rowOf : Room := { frames := 0, cells := 0, slots := 0, locals := 0 }
theorem hy_X0_rowOf : yX0_rowOf.cls = RX0 ∧ yX0_rowOf.cls ≠ "java/lang/invoke/MethodHandle" ∧ yX0_rowOf.cls ≠ "java/lang/invoke/VarHandle" ∧ (parseMethodDescriptor yX0_rowOf.desc).map (fun d => d.parameters.length) = some 1 := by decide +kernel
theorem hin_X0_rowOf_X0 : ∀ w ∈ wsX00, w ∈ wsX0_rowOf := fun _ h => List.mem_cons_of_mem _ (List.mem_append_right _ h)
set_option maxRecDepth 100000 in
set_option maxHeartbeats 4000000 in
theorem c_X0_rowOf {l : Launch} {a : Nat → Nat} {M : xMem} {h0 : Nat} {p1 : Int32} {post : Nat → xMem → Prop} (ha : xInj a) (h : w_X0_rowOf M h0 p1 post) : ∀ D cs sz, xMetR l yX0_rowOf wsX0_rowOf rm_X0_rowOf D a cs sz M [.ref (a h0), .int p1] post := by
  intro D cs sz
  unfold w_X0_rowOf at h
  obtain ⟨hk0, h⟩ := h
  refine x_metR [some (.ref (a h0)), some (.int p1)] (by decide) rfl rfl (Nat.le_of_ble_eq_true rfl) rfl rfl ha D cs sz rfl (fun G e1 e2 hG hQ => ?_)
  subst e1
  subst e2
  refine x_iload_n hG dX0_rowOf_0 rfl rfl ?_
  refine x_if_ne (tgt := 11) hG dX0_rowOf_1 (by decide) (fun hc1 => ?_) (fun hc1 => ?_)
  · have h := h.1 hc1
    refine x_aload_n hG dX0_rowOf_11 rfl rfl ?_
    refine x_get_0_1 hG dX0_rowOf_12 hk0 hin_X0_rowOf_X0 (List.mem_of_getElem? (i := 2) rfl) ?_
    exact x_aret hG hQ dX0_rowOf_15 h
  · have h := h.2 hc1
    refine x_aload_n hG dX0_rowOf_4 rfl rfl ?_
    refine x_get_0_0 hG dX0_rowOf_5 hk0 hin_X0_rowOf_X0 (List.mem_of_getElem? (i := 1) rfl) ?_
    refine x_goto (tgt := 15) hG dX0_rowOf_8 (by decide) ?_
    exact x_aret hG hQ dX0_rowOf_15 h
abbrev rm_X0_all : Room := { frames := 1, cells := 0, slots := 0, locals := 21 }
theorem hy_X0_all : yX0_all.cls = RX0 ∧ yX0_all.cls ≠ "java/lang/invoke/MethodHandle" ∧ yX0_all.cls ≠ "java/lang/invoke/VarHandle" ∧ (parseMethodDescriptor yX0_all.desc).map (fun d => d.parameters.length) = some 1 := by decide +kernel
set_option maxRecDepth 100000 in
set_option maxHeartbeats 4000000 in
theorem k_X0_all_11 {G : xG} {post : Int32 → xMem → Prop} (hG : xOk G cX0_all RX0 wsX0_all rm_X0_all) (hQ : xRetI G post .int) (h0 : Nat) (hk0 : kd h0 = 0) : ∀ (M : xMem) (p2 : Nat) (p3 : Int32) (p4 : Int32), xlp4 (b_X0_all_11 post h0) M p2 p3 p4 → xW G M [none, none, some (.ref (xa G p2)), some (.int p3), some (.int p4)] [] 11 := by
  refine xlp4_W (W := fun M p2 p3 p4 => xW G M [none, none, some (.ref (xa G p2)), some (.int p3), some (.int p4)] [] 11) (fun r11 hr11 => ?_)
  intro M p2 p3 p4 h
  unfold b_X0_all_11 at h
  refine x_iload hG dX0_all_11 rfl ?_
  refine x_bipush (v := (96 : Int32)) hG dX0_all_13 (by decide) ?_
  refine x_icmp_ge (tgt := 31) hG dX0_all_15 (by decide) (fun hc1 => ?_) (fun hc1 => ?_)
  · have h := h.1 hc1
    refine x_iload_n hG dX0_all_31 rfl rfl ?_
    exact x_iret hG hQ dX0_all_32 rfl h
  · have h := h.2 hc1
    refine x_iload_n hG dX0_all_18 rfl rfl ?_
    refine x_aload_n hG dX0_all_19 rfl rfl ?_
    refine x_iload hG dX0_all_20 rfl ?_
    obtain ⟨hk2, h⟩ := h
    obtain ⟨hi3, h⟩ := h
    refine x_iaload hG dX0_all_22 hk2 hi3 ?_
    refine x_iadd hG dX0_all_23 ?_
    refine x_istore_n hG dX0_all_24 rfl (Nat.le_of_ble_eq_true rfl) rfl ?_
    refine x_iinc (v := _) hG dX0_all_25 rfl (x_iincE (k := 1) (by decide)) (Nat.le_of_ble_eq_true rfl) rfl ?_
    refine x_goto (tgt := 11) hG dX0_all_28 (by decide) ?_
    refine x_keep [false, false, true, true, true] rfl ?_
    exact hr11 _ _ _ _ h
set_option maxRecDepth 100000 in
set_option maxHeartbeats 4000000 in
theorem c_X0_all {l : Launch} {a : Nat → Nat} {M : xMem} {h0 : Nat} {p1 : Int32} {post : Int32 → xMem → Prop} (ha : xInj a) (h : w_X0_all M h0 p1 post) : ∀ D cs sz, xMetI l yX0_all wsX0_all rm_X0_all D a cs sz M [.ref (a h0), .int p1] post := by
  intro D cs sz
  unfold w_X0_all at h
  obtain ⟨hk0, h⟩ := h
  refine x_metI (ty := .int) [some (.ref (a h0)), some (.int p1), none, none, none] (by decide) rfl rfl (Nat.le_of_ble_eq_true rfl) rfl rfl ha D cs sz rfl (fun G e1 e2 hG hQ => ?_)
  subst e1
  subst e2
  refine x_aload_n hG dX0_all_0 rfl rfl ?_
  refine x_iload_n hG dX0_all_1 rfl rfl ?_
  refine x_cVR1 hG dX0_all_2 (fun ha => c_X0_rowOf ha h) gX0_all_X0_rowOf rfl ⟨rfl, rfl⟩ hy_X0_rowOf ⟨Nat.le_of_ble_eq_true rfl, Nat.le_of_ble_eq_true rfl⟩ (kd_lt hk0 (by decide)) (fun _ => xc_0 hk0) rfl (Nat.le_of_ble_eq_true rfl) (fun z1 M2 h => ?_)
  refine x_astore_n hG dX0_all_5 rfl (Nat.le_of_ble_eq_true rfl) rfl ?_
  refine x_iconst (v := (0 : Int32)) hG dX0_all_6 (by decide) ?_
  refine x_istore_n hG dX0_all_7 rfl (Nat.le_of_ble_eq_true rfl) rfl ?_
  refine x_iconst (v := (0 : Int32)) hG dX0_all_8 (by decide) ?_
  refine x_istore hG dX0_all_9 (Nat.le_of_ble_eq_true rfl) rfl ?_
  refine x_keep [false, false, true, true, true] rfl ?_
  exact k_X0_all_11 hG hQ h0 hk0 _ _ _ _ h
abbrev rm_J7_fill_53178 : Room := { frames := 0, cells := 0, slots := 0, locals := 0 }
theorem hy_J7_fill_53178 : yJ7_fill_53178.cls ≠ "java/lang/invoke/MethodHandle" ∧ yJ7_fill_53178.cls ≠ "java/lang/invoke/VarHandle" ∧ (parseMethodDescriptor yJ7_fill_53178.desc).map (fun d => d.parameters.length) = some 2 := by decide +kernel
set_option maxRecDepth 100000 in
set_option maxHeartbeats 4000000 in
theorem k_J7_fill_53178_5 {G : xG} {post : xMem → Prop} (hG : xOk G cJ7_fill_53178 RJ7 wsJ7_fill_53178 rm_J7_fill_53178) (hQ : xRetV G post) : ∀ (M : xMem) (p0 : Nat) (p1 : Int32) (p2 : Int32) (p3 : Int32), xlp5 (b_J7_fill_53178_5 post) M p0 p1 p2 p3 → xW G M [some (.ref (xa G p0)), some (.int p1), some (.int p2), some (.int p3)] [] 5 := by
  refine xlp5_W (W := fun M p0 p1 p2 p3 => xW G M [some (.ref (xa G p0)), some (.int p1), some (.int p2), some (.int p3)] [] 5) (fun r5 hr5 => ?_)
  intro M p0 p1 p2 p3 h
  unfold b_J7_fill_53178_5 at h
  refine x_iload_n hG dJ7_fill_53178_5 rfl rfl ?_
  refine x_iload_n hG dJ7_fill_53178_6 rfl rfl ?_
  refine x_icmp_ge (tgt := 20) hG dJ7_fill_53178_7 (by decide) (fun hc1 => ?_) (fun hc1 => ?_)
  · have h := h.1 hc1
    exact x_vret hG hQ dJ7_fill_53178_20 h
  · have h := h.2 hc1
    refine x_aload_n hG dJ7_fill_53178_10 rfl rfl ?_
    refine x_iload_n hG dJ7_fill_53178_11 rfl rfl ?_
    refine x_iload_n hG dJ7_fill_53178_12 rfl rfl ?_
    obtain ⟨hk2, h⟩ := h
    obtain ⟨hi3, h⟩ := h
    have h := h _ rfl
    refine x_iastore hG dJ7_fill_53178_13 hk2 hi3 ?_
    refine x_iinc (v := _) hG dJ7_fill_53178_14 rfl (x_iincE (k := 1) (by decide)) (Nat.le_of_ble_eq_true rfl) rfl ?_
    refine x_goto (tgt := 5) hG dJ7_fill_53178_17 (by decide) ?_
    refine x_keep [true, true, true, true] rfl ?_
    exact hr5 _ _ _ _ _ h
set_option maxRecDepth 100000 in
set_option maxHeartbeats 4000000 in
theorem c_J7_fill_53178 {l : Launch} {a : Nat → Nat} {M : xMem} {p0 : Nat} {p1 : Int32} {post : xMem → Prop} (ha : xInj a) (h : w_J7_fill_53178 M p0 p1 post) : ∀ D cs sz, xMetV l yJ7_fill_53178 wsJ7_fill_53178 rm_J7_fill_53178 D a cs sz M [.ref (a p0), .int p1] post := by
  intro D cs sz
  unfold w_J7_fill_53178 at h
  refine x_metV [some (.ref (a p0)), some (.int p1), none, none] (by decide) rfl rfl (Nat.le_of_ble_eq_true rfl) rfl rfl ha D cs sz rfl (fun G e1 e2 hG hQ => ?_)
  subst e1
  subst e2
  refine x_iconst (v := (0 : Int32)) hG dJ7_fill_53178_0 (by decide) ?_
  refine x_istore_n hG dJ7_fill_53178_1 rfl (Nat.le_of_ble_eq_true rfl) rfl ?_
  refine x_aload_n hG dJ7_fill_53178_2 rfl rfl ?_
  obtain ⟨hk1, h⟩ := h
  refine x_alen hG dJ7_fill_53178_3 hk1 ?_
  refine x_istore_n hG dJ7_fill_53178_4 rfl (Nat.le_of_ble_eq_true rfl) rfl ?_
  refine x_keep [true, true, true, true] rfl ?_
  exact k_J7_fill_53178_5 hG hQ _ _ _ _ _ h
abbrev rm_X0_flatten : Room := { frames := 1, cells := 0, slots := 0, locals := 23 }
theorem hy_X0_flatten : yX0_flatten.cls = RX0 ∧ yX0_flatten.cls ≠ "java/lang/invoke/MethodHandle" ∧ yX0_flatten.cls ≠ "java/lang/invoke/VarHandle" ∧ (parseMethodDescriptor yX0_flatten.desc).map (fun d => d.parameters.length) = some 0 := by decide +kernel
theorem hin_X0_flatten_X0 : ∀ w ∈ wsX00, w ∈ wsX0_flatten := fun _ h => List.mem_cons_of_mem _ (List.mem_append_right _ h)
set_option maxRecDepth 100000 in
set_option maxHeartbeats 4000000 in
theorem c_X0_flatten {l : Launch} {a : Nat → Nat} {M : xMem} {h0 : Nat} {post : xMem → Prop} (ha : xInj a) (h : w_X0_flatten M h0 post) : ∀ D cs sz, xMetV l yX0_flatten wsX0_flatten rm_X0_flatten D a cs sz M [.ref (a h0)] post := by
  intro D cs sz
  unfold w_X0_flatten at h
  obtain ⟨hk0, h⟩ := h
  refine x_metV [some (.ref (a h0))] (by decide) rfl rfl (Nat.le_of_ble_eq_true rfl) rfl rfl ha D cs sz rfl (fun G e1 e2 hG hQ => ?_)
  subst e1
  subst e2
  refine x_aload_n hG dX0_flatten_0 rfl rfl ?_
  refine x_get_0_0 hG dX0_flatten_1 hk0 hin_X0_flatten_X0 (List.mem_of_getElem? (i := 1) rfl) ?_
  refine x_iconst (v := (0 : Int32)) hG dX0_flatten_4 (by decide) ?_
  refine x_cSV2 hG dX0_flatten_5 (fun ha => c_J7_fill_53178 ha h) gX0_flatten_J7_fill_53178 rfl ⟨rfl, rfl⟩ hy_J7_fill_53178 ⟨Nat.le_of_ble_eq_true rfl, Nat.le_of_ble_eq_true rfl⟩ (Nat.le_of_ble_eq_true rfl) (fun M2 h => ?_)
  refine x_aload_n hG dX0_flatten_8 rfl rfl ?_
  refine x_get_0_1 hG dX0_flatten_9 hk0 hin_X0_flatten_X0 (List.mem_of_getElem? (i := 2) rfl) ?_
  refine x_iconst (v := (0 : Int32)) hG dX0_flatten_12 (by decide) ?_
  refine x_cSV2 hG dX0_flatten_13 (fun ha => c_J7_fill_53178 ha h) gX0_flatten_J7_fill_53178 rfl ⟨rfl, rfl⟩ hy_J7_fill_53178 ⟨Nat.le_of_ble_eq_true rfl, Nat.le_of_ble_eq_true rfl⟩ (Nat.le_of_ble_eq_true rfl) (fun M4 h => ?_)
  refine x_aload_n hG dX0_flatten_16 rfl rfl ?_
  refine x_iconst (v := (0 : Int32)) hG dX0_flatten_17 (by decide) ?_
  have h := h _ rfl
  refine x_put_0_2 hG dX0_flatten_18 hk0 hin_X0_flatten_X0 (List.mem_of_getElem? (i := 3) rfl) ?_
  refine x_aload_n hG dX0_flatten_21 rfl rfl ?_
  refine x_iconst (v := (0 : Int32)) hG dX0_flatten_22 (by decide) ?_
  have h := h _ rfl
  refine x_put_0_3 hG dX0_flatten_23 hk0 hin_X0_flatten_X0 (List.mem_of_getElem? (i := 4) rfl) ?_
  exact x_vret hG hQ dX0_flatten_26 h
abbrev rm_X0_becomes : Room := { frames := 1, cells := 0, slots := 0, locals := 60 }
theorem hy_X0_becomes : yX0_becomes.cls = RX0 ∧ yX0_becomes.cls ≠ "java/lang/invoke/MethodHandle" ∧ yX0_becomes.cls ≠ "java/lang/invoke/VarHandle" ∧ (parseMethodDescriptor yX0_becomes.desc).map (fun d => d.parameters.length) = some 1 := by decide +kernel
theorem hin_X0_becomes_X0 : ∀ w ∈ wsX00, w ∈ wsX0_becomes := fun _ h => List.mem_cons_of_mem _ (List.mem_append_right _ h)
set_option maxRecDepth 100000 in
set_option maxHeartbeats 4000000 in
theorem c_X0_becomes {l : Launch} {a : Nat → Nat} {M : xMem} {h0 : Nat} {p1 : Nat} {post : xMem → Prop} (ha : xInj a) (h : w_X0_becomes M h0 p1 post) : ∀ D cs sz, xMetV l yX0_becomes wsX0_becomes rm_X0_becomes D a cs sz M [.ref (a h0), .ref (a p1)] post := by
  intro D cs sz
  unfold w_X0_becomes at h
  obtain ⟨hk0, h⟩ := h
  refine x_metV [some (.ref (a h0)), some (.ref (a p1))] (by decide) rfl rfl (Nat.le_of_ble_eq_true rfl) rfl rfl ha D cs sz rfl (fun G e1 e2 hG hQ => ?_)
  subst e1
  subst e2
  refine x_aload_n hG dX0_becomes_0 rfl rfl ?_
  obtain ⟨hk1, h⟩ := h
  refine x_get_0_0 hG dX0_becomes_1 hk1 hin_X0_becomes_X0 (List.mem_of_getElem? (i := 1) rfl) ?_
  refine x_iconst (v := (0 : Int32)) hG dX0_becomes_4 (by decide) ?_
  refine x_aload_n hG dX0_becomes_5 rfl rfl ?_
  refine x_get_0_0 hG dX0_becomes_6 hk0 hin_X0_becomes_X0 (List.mem_of_getElem? (i := 1) rfl) ?_
  refine x_iconst (v := (0 : Int32)) hG dX0_becomes_9 (by decide) ?_
  refine x_bipush (v := (96 : Int32)) hG dX0_becomes_10 (by decide) ?_
  have h := h _ rfl
  refine x_acopy (N := 96) hG dX0_becomes_12 (List.mem_of_getElem? (i := 2) rfl) (List.mem_of_getElem? (i := 3) rfl) (List.mem_of_getElem? (i := 4) rfl) (List.mem_of_getElem? (i := 5) rfl) (kf_0_0 hk1).1 (kf_0_0 hk0).1 (by decide) (by decide) (by rw [(kf_0_0 hk1).2]; decide) (by rw [(kf_0_0 hk0).2]; decide) (Nat.le_of_ble_eq_true rfl) (Nat.le_of_ble_eq_true (by decide +kernel)) ?_
  refine x_aload_n hG dX0_becomes_15 rfl rfl ?_
  refine x_get_0_1 hG dX0_becomes_16 hk1 hin_X0_becomes_X0 (List.mem_of_getElem? (i := 6) rfl) ?_
  refine x_iconst (v := (0 : Int32)) hG dX0_becomes_19 (by decide) ?_
  refine x_aload_n hG dX0_becomes_20 rfl rfl ?_
  refine x_get_0_1 hG dX0_becomes_21 hk0 hin_X0_becomes_X0 (List.mem_of_getElem? (i := 6) rfl) ?_
  refine x_iconst (v := (0 : Int32)) hG dX0_becomes_24 (by decide) ?_
  refine x_bipush (v := (96 : Int32)) hG dX0_becomes_25 (by decide) ?_
  have h := h _ rfl
  refine x_acopy (N := 96) hG dX0_becomes_27 (List.mem_of_getElem? (i := 2) rfl) (List.mem_of_getElem? (i := 3) rfl) (List.mem_of_getElem? (i := 4) rfl) (List.mem_of_getElem? (i := 5) rfl) (kf_0_1 hk1).1 (kf_0_1 hk0).1 (by decide) (by decide) (by rw [(kf_0_1 hk1).2]; decide) (by rw [(kf_0_1 hk0).2]; decide) (Nat.le_of_ble_eq_true rfl) (Nat.le_of_ble_eq_true (by decide +kernel)) ?_
  refine x_aload_n hG dX0_becomes_30 rfl rfl ?_
  refine x_aload_n hG dX0_becomes_31 rfl rfl ?_
  refine x_get_0_2 hG dX0_becomes_32 hk1 hin_X0_becomes_X0 (List.mem_of_getElem? (i := 7) rfl) ?_
  have h := h _ rfl
  refine x_put_0_2 hG dX0_becomes_35 hk0 hin_X0_becomes_X0 (List.mem_of_getElem? (i := 7) rfl) ?_
  refine x_aload_n hG dX0_becomes_38 rfl rfl ?_
  refine x_aload_n hG dX0_becomes_39 rfl rfl ?_
  refine x_get_0_3 hG dX0_becomes_40 hk1 hin_X0_becomes_X0 (List.mem_of_getElem? (i := 8) rfl) ?_
  have h := h _ rfl
  refine x_put_0_3 hG dX0_becomes_43 hk0 hin_X0_becomes_X0 (List.mem_of_getElem? (i := 8) rfl) ?_
  exact x_vret hG hQ dX0_becomes_46 h
abbrev rm_X1_add : Room := { frames := 0, cells := 0, slots := 0, locals := 0 }
theorem hy_X1_add : yX1_add.cls = RX1 ∧ yX1_add.cls ≠ "java/lang/invoke/MethodHandle" ∧ yX1_add.cls ≠ "java/lang/invoke/VarHandle" ∧ (parseMethodDescriptor yX1_add.desc).map (fun d => d.parameters.length) = some 2 := by decide +kernel
theorem hin_X1_add_X1 : ∀ w ∈ wsX10, w ∈ wsX1_add := fun _ h => List.mem_cons_of_mem _ (List.mem_append_right _ h)
set_option maxRecDepth 100000 in
set_option maxHeartbeats 4000000 in
theorem c_X1_add {l : Launch} {a : Nat → Nat} {M : xMem} {h0 : Nat} {p1 : Int32} {p2 : Int32} {post : Int32 → xMem → Prop} (ha : xInj a) (h : w_X1_add M h0 p1 p2 post) : ∀ D cs sz, xMetI l yX1_add wsX1_add rm_X1_add D a cs sz M [.ref (a h0), .int p1, .int p2] post := by
  intro D cs sz
  unfold w_X1_add at h
  obtain ⟨hk0, h⟩ := h
  refine x_metI (ty := .int) [some (.ref (a h0)), some (.int p1), some (.int p2)] (by decide) rfl rfl (Nat.le_of_ble_eq_true rfl) rfl rfl ha D cs sz rfl (fun G e1 e2 hG hQ => ?_)
  subst e1
  subst e2
  refine x_aload_n hG dX1_add_0 rfl rfl ?_
  refine x_get_1_2 hG dX1_add_1 hk0 hin_X1_add_X1 (List.mem_of_getElem? (i := 1) rfl) ?_
  refine x_bipush (v := (6 : Int32)) hG dX1_add_4 (by decide) ?_
  refine x_icmp_lt (tgt := 12) hG dX1_add_6 (by decide) (fun hc1 => ?_) (fun hc1 => ?_)
  · have h := h.1 hc1
    refine x_aload_n hG dX1_add_12 rfl rfl ?_
    refine x_get_1_0 hG dX1_add_13 hk0 hin_X1_add_X1 (List.mem_of_getElem? (i := 2) rfl) ?_
    refine x_aload_n hG dX1_add_16 rfl rfl ?_
    refine x_get_1_2 hG dX1_add_17 hk0 hin_X1_add_X1 (List.mem_of_getElem? (i := 1) rfl) ?_
    refine x_iload_n hG dX1_add_20 rfl rfl ?_
    obtain ⟨hi2, h⟩ := h
    have h := h _ rfl
    refine x_iastore hG dX1_add_21 (kf_1_0 hk0).1 (x_inE (kf_1_0 hk0).2 hi2) ?_
    refine x_aload_n hG dX1_add_22 rfl rfl ?_
    refine x_get_1_1 hG dX1_add_23 hk0 hin_X1_add_X1 (List.mem_of_getElem? (i := 3) rfl) ?_
    refine x_aload_n hG dX1_add_26 rfl rfl ?_
    refine x_get_1_2 hG dX1_add_27 hk0 hin_X1_add_X1 (List.mem_of_getElem? (i := 1) rfl) ?_
    refine x_iload_n hG dX1_add_30 rfl rfl ?_
    obtain ⟨hi4, h⟩ := h
    have h := h _ rfl
    refine x_iastore hG dX1_add_31 (kf_1_1 hk0).1 (x_inE (kf_1_1 hk0).2 hi4) ?_
    refine x_aload_n hG dX1_add_32 rfl rfl ?_
    refine x_dup hG dX1_add_33 rfl ?_
    refine x_get_1_2 hG dX1_add_34 hk0 hin_X1_add_X1 (List.mem_of_getElem? (i := 1) rfl) ?_
    refine x_iconst (v := (1 : Int32)) hG dX1_add_37 (by decide) ?_
    refine x_iadd hG dX1_add_38 ?_
    have h := h _ rfl
    refine x_put_1_2 hG dX1_add_39 hk0 hin_X1_add_X1 (List.mem_of_getElem? (i := 1) rfl) ?_
    refine x_aload_n hG dX1_add_42 rfl rfl ?_
    refine x_get_1_2 hG dX1_add_43 hk0 hin_X1_add_X1 (List.mem_of_getElem? (i := 1) rfl) ?_
    exact x_iret hG hQ dX1_add_46 rfl h
  · have h := h.2 hc1
    refine x_bipush (v := (-3 : Int32)) hG dX1_add_9 (by decide) ?_
    exact x_iret hG hQ dX1_add_11 rfl h
abbrev rm_X1_empty : Room := { frames := 0, cells := 0, slots := 0, locals := 0 }
theorem hy_X1_empty : yX1_empty.cls = RX1 ∧ yX1_empty.cls ≠ "java/lang/invoke/MethodHandle" ∧ yX1_empty.cls ≠ "java/lang/invoke/VarHandle" ∧ (parseMethodDescriptor yX1_empty.desc).map (fun d => d.parameters.length) = some 0 := by decide +kernel
theorem hin_X1_empty_X1 : ∀ w ∈ wsX10, w ∈ wsX1_empty := fun _ h => List.mem_cons_of_mem _ (List.mem_append_right _ h)
set_option maxRecDepth 100000 in
set_option maxHeartbeats 4000000 in
theorem c_X1_empty {l : Launch} {a : Nat → Nat} {M : xMem} {h0 : Nat} {post : Int32 → xMem → Prop} (ha : xInj a) (h : w_X1_empty M h0 post) : ∀ D cs sz, xMetI l yX1_empty wsX1_empty rm_X1_empty D a cs sz M [.ref (a h0)] post := by
  intro D cs sz
  unfold w_X1_empty at h
  obtain ⟨hk0, h⟩ := h
  refine x_metI (ty := .int) [some (.ref (a h0)), none] (by decide) rfl rfl (Nat.le_of_ble_eq_true rfl) rfl rfl ha D cs sz rfl (fun G e1 e2 hG hQ => ?_)
  subst e1
  subst e2
  refine x_aload_n hG dX1_empty_0 rfl rfl ?_
  refine x_get_1_2 hG dX1_empty_1 hk0 hin_X1_empty_X1 (List.mem_of_getElem? (i := 1) rfl) ?_
  refine x_istore_n hG dX1_empty_4 rfl (Nat.le_of_ble_eq_true rfl) rfl ?_
  refine x_aload_n hG dX1_empty_5 rfl rfl ?_
  refine x_iconst (v := (0 : Int32)) hG dX1_empty_6 (by decide) ?_
  have h := h _ rfl
  refine x_put_1_2 hG dX1_empty_7 hk0 hin_X1_empty_X1 (List.mem_of_getElem? (i := 1) rfl) ?_
  refine x_iload_n hG dX1_empty_10 rfl rfl ?_
  exact x_iret hG hQ dX1_empty_11 rfl h
abbrev rm_X1_becomes : Room := { frames := 1, cells := 0, slots := 0, locals := 60 }
theorem hy_X1_becomes : yX1_becomes.cls = RX1 ∧ yX1_becomes.cls ≠ "java/lang/invoke/MethodHandle" ∧ yX1_becomes.cls ≠ "java/lang/invoke/VarHandle" ∧ (parseMethodDescriptor yX1_becomes.desc).map (fun d => d.parameters.length) = some 1 := by decide +kernel
theorem hin_X1_becomes_X1 : ∀ w ∈ wsX10, w ∈ wsX1_becomes := fun _ h => List.mem_cons_of_mem _ (List.mem_append_right _ h)
set_option maxRecDepth 100000 in
set_option maxHeartbeats 4000000 in
theorem c_X1_becomes {l : Launch} {a : Nat → Nat} {M : xMem} {h0 : Nat} {p1 : Nat} {post : xMem → Prop} (ha : xInj a) (h : w_X1_becomes M h0 p1 post) : ∀ D cs sz, xMetV l yX1_becomes wsX1_becomes rm_X1_becomes D a cs sz M [.ref (a h0), .ref (a p1)] post := by
  intro D cs sz
  unfold w_X1_becomes at h
  obtain ⟨hk0, h⟩ := h
  refine x_metV [some (.ref (a h0)), some (.ref (a p1))] (by decide) rfl rfl (Nat.le_of_ble_eq_true rfl) rfl rfl ha D cs sz rfl (fun G e1 e2 hG hQ => ?_)
  subst e1
  subst e2
  refine x_aload_n hG dX1_becomes_0 rfl rfl ?_
  obtain ⟨hk1, h⟩ := h
  refine x_get_1_0 hG dX1_becomes_1 hk1 hin_X1_becomes_X1 (List.mem_of_getElem? (i := 1) rfl) ?_
  refine x_iconst (v := (0 : Int32)) hG dX1_becomes_4 (by decide) ?_
  refine x_aload_n hG dX1_becomes_5 rfl rfl ?_
  refine x_get_1_0 hG dX1_becomes_6 hk0 hin_X1_becomes_X1 (List.mem_of_getElem? (i := 1) rfl) ?_
  refine x_iconst (v := (0 : Int32)) hG dX1_becomes_9 (by decide) ?_
  refine x_bipush (v := (6 : Int32)) hG dX1_becomes_10 (by decide) ?_
  have h := h _ rfl
  refine x_acopy (N := 6) hG dX1_becomes_12 (List.mem_of_getElem? (i := 2) rfl) (List.mem_of_getElem? (i := 3) rfl) (List.mem_of_getElem? (i := 4) rfl) (List.mem_of_getElem? (i := 5) rfl) (kf_1_0 hk1).1 (kf_1_0 hk0).1 (by decide) (by decide) (by rw [(kf_1_0 hk1).2]; decide) (by rw [(kf_1_0 hk0).2]; decide) (Nat.le_of_ble_eq_true rfl) (Nat.le_of_ble_eq_true (by decide +kernel)) ?_
  refine x_aload_n hG dX1_becomes_15 rfl rfl ?_
  refine x_get_1_1 hG dX1_becomes_16 hk1 hin_X1_becomes_X1 (List.mem_of_getElem? (i := 6) rfl) ?_
  refine x_iconst (v := (0 : Int32)) hG dX1_becomes_19 (by decide) ?_
  refine x_aload_n hG dX1_becomes_20 rfl rfl ?_
  refine x_get_1_1 hG dX1_becomes_21 hk0 hin_X1_becomes_X1 (List.mem_of_getElem? (i := 6) rfl) ?_
  refine x_iconst (v := (0 : Int32)) hG dX1_becomes_24 (by decide) ?_
  refine x_bipush (v := (6 : Int32)) hG dX1_becomes_25 (by decide) ?_
  have h := h _ rfl
  refine x_acopy (N := 6) hG dX1_becomes_27 (List.mem_of_getElem? (i := 2) rfl) (List.mem_of_getElem? (i := 3) rfl) (List.mem_of_getElem? (i := 4) rfl) (List.mem_of_getElem? (i := 5) rfl) (kf_1_1 hk1).1 (kf_1_1 hk0).1 (by decide) (by decide) (by rw [(kf_1_1 hk1).2]; decide) (by rw [(kf_1_1 hk0).2]; decide) (Nat.le_of_ble_eq_true rfl) (Nat.le_of_ble_eq_true (by decide +kernel)) ?_
  refine x_aload_n hG dX1_becomes_30 rfl rfl ?_
  refine x_aload_n hG dX1_becomes_31 rfl rfl ?_
  refine x_get_1_2 hG dX1_becomes_32 hk1 hin_X1_becomes_X1 (List.mem_of_getElem? (i := 7) rfl) ?_
  have h := h _ rfl
  refine x_put_1_2 hG dX1_becomes_35 hk0 hin_X1_becomes_X1 (List.mem_of_getElem? (i := 7) rfl) ?_
  exact x_vret hG hQ dX1_becomes_38 h
abbrev rm_X2_startAnew : Room := { frames := 2, cells := 0, slots := 0, locals := 43 }
theorem hy_X2_startAnew : yX2_startAnew.cls = RX2 ∧ yX2_startAnew.cls ≠ "java/lang/invoke/MethodHandle" ∧ yX2_startAnew.cls ≠ "java/lang/invoke/VarHandle" ∧ (parseMethodDescriptor yX2_startAnew.desc).map (fun d => d.parameters.length) = some 0 := by decide +kernel
theorem hin_X2_startAnew_X2 : ∀ w ∈ wsX20, w ∈ wsX2_startAnew := fun _ h => List.mem_cons_of_mem _ (List.mem_append_left _ (List.mem_append_right _ h))
set_option maxRecDepth 100000 in
set_option maxHeartbeats 4000000 in
theorem c_X2_startAnew {l : Launch} {a : Nat → Nat} {M : xMem} {h0 : Nat} {post : xMem → Prop} (ha : xInj a) (h : w_X2_startAnew M h0 post) : ∀ D cs sz, xMetV l yX2_startAnew wsX2_startAnew rm_X2_startAnew D a cs sz M [.ref (a h0)] post := by
  intro D cs sz
  unfold w_X2_startAnew at h
  obtain ⟨hk0, h⟩ := h
  refine x_metV [some (.ref (a h0))] (by decide) rfl rfl (Nat.le_of_ble_eq_true rfl) rfl rfl ha D cs sz rfl (fun G e1 e2 hG hQ => ?_)
  subst e1
  subst e2
  refine x_aload_n hG dX2_startAnew_0 rfl rfl ?_
  refine x_iconst (v := (4 : Int32)) hG dX2_startAnew_1 (by decide) ?_
  have h := h _ rfl
  refine x_put_2_0 hG dX2_startAnew_2 hk0 hin_X2_startAnew_X2 (List.mem_of_getElem? (i := 1) rfl) ?_
  refine x_aload_n hG dX2_startAnew_5 rfl rfl ?_
  refine x_iconst (v := (3 : Int32)) hG dX2_startAnew_6 (by decide) ?_
  have h := h _ rfl
  refine x_put_2_1 hG dX2_startAnew_7 hk0 hin_X2_startAnew_X2 (List.mem_of_getElem? (i := 2) rfl) ?_
  refine x_aload_n hG dX2_startAnew_10 rfl rfl ?_
  refine x_iconst (v := (0 : Int32)) hG dX2_startAnew_11 (by decide) ?_
  have h := h _ rfl
  refine x_put_2_2 hG dX2_startAnew_12 hk0 hin_X2_startAnew_X2 (List.mem_of_getElem? (i := 3) rfl) ?_
  refine x_aload_n hG dX2_startAnew_15 rfl rfl ?_
  refine x_iconst (v := (0 : Int32)) hG dX2_startAnew_16 (by decide) ?_
  have h := h _ rfl
  refine x_put_2_3 hG dX2_startAnew_17 hk0 hin_X2_startAnew_X2 (List.mem_of_getElem? (i := 4) rfl) ?_
  refine x_aload_n hG dX2_startAnew_20 rfl rfl ?_
  refine x_get_2_4 hG dX2_startAnew_21 hk0 hin_X2_startAnew_X2 (List.mem_of_getElem? (i := 5) rfl) ?_
  refine x_cVV0 hG dX2_startAnew_24 (fun ha => c_X0_flatten ha h) gX2_startAnew_X0_flatten rfl ⟨rfl, rfl⟩ hy_X0_flatten ⟨Nat.le_of_ble_eq_true rfl, Nat.le_of_ble_eq_true rfl⟩ (kd_lt (kf_2_4 hk0).1 (by decide)) (fun _ => xc_0 (kf_2_4 hk0).1) rfl (Nat.le_of_ble_eq_true rfl) (fun M6 h => ?_)
  exact x_vret hG hQ dX2_startAnew_27 h
abbrev rm_X2_yards : Room := { frames := 0, cells := 0, slots := 0, locals := 0 }
theorem hy_X2_yards : yX2_yards.cls = RX2 ∧ yX2_yards.cls ≠ "java/lang/invoke/MethodHandle" ∧ yX2_yards.cls ≠ "java/lang/invoke/VarHandle" ∧ (parseMethodDescriptor yX2_yards.desc).map (fun d => d.parameters.length) = some 0 := by decide +kernel
theorem hin_X2_yards_X2 : ∀ w ∈ wsX20, w ∈ wsX2_yards := fun _ h => List.mem_cons_of_mem _ (List.mem_append_right _ h)
set_option maxRecDepth 100000 in
set_option maxHeartbeats 4000000 in
theorem c_X2_yards {l : Launch} {a : Nat → Nat} {M : xMem} {h0 : Nat} {post : Int32 → xMem → Prop} (ha : xInj a) (h : w_X2_yards M h0 post) : ∀ D cs sz, xMetI l yX2_yards wsX2_yards rm_X2_yards D a cs sz M [.ref (a h0)] post := by
  intro D cs sz
  unfold w_X2_yards at h
  obtain ⟨hk0, h⟩ := h
  refine x_metI (ty := .int) [some (.ref (a h0))] (by decide) rfl rfl (Nat.le_of_ble_eq_true rfl) rfl rfl ha D cs sz rfl (fun G e1 e2 hG hQ => ?_)
  subst e1
  subst e2
  refine x_aload_n hG dX2_yards_0 rfl rfl ?_
  refine x_get_2_0 hG dX2_yards_1 hk0 hin_X2_yards_X2 (List.mem_of_getElem? (i := 1) rfl) ?_
  refine x_aload_n hG dX2_yards_4 rfl rfl ?_
  refine x_get_2_1 hG dX2_yards_5 hk0 hin_X2_yards_X2 (List.mem_of_getElem? (i := 2) rfl) ?_
  refine x_imul hG dX2_yards_8 ?_
  exact x_iret hG hQ dX2_yards_9 rfl h
abbrev rm_X2_isYard : Room := { frames := 0, cells := 0, slots := 0, locals := 0 }
theorem hy_X2_isYard : yX2_isYard.cls = RX2 ∧ yX2_isYard.cls ≠ "java/lang/invoke/MethodHandle" ∧ yX2_isYard.cls ≠ "java/lang/invoke/VarHandle" ∧ (parseMethodDescriptor yX2_isYard.desc).map (fun d => d.parameters.length) = some 1 := by decide +kernel
theorem hin_X2_isYard_X2 : ∀ w ∈ wsX20, w ∈ wsX2_isYard := fun _ h => List.mem_cons_of_mem _ (List.mem_append_right _ h)
set_option maxRecDepth 100000 in
set_option maxHeartbeats 4000000 in
theorem c_X2_isYard {l : Launch} {a : Nat → Nat} {M : xMem} {h0 : Nat} {p1 : Int32} {post : Int32 → xMem → Prop} (ha : xInj a) (h : w_X2_isYard M h0 p1 post) : ∀ D cs sz, xMetI l yX2_isYard wsX2_isYard rm_X2_isYard D a cs sz M [.ref (a h0), .int p1] post := by
  intro D cs sz
  unfold w_X2_isYard at h
  obtain ⟨hk0, h⟩ := h
  refine x_metI (ty := .boolean) [some (.ref (a h0)), some (.int p1)] (by decide) rfl rfl (Nat.le_of_ble_eq_true rfl) rfl rfl ha D cs sz rfl (fun G e1 e2 hG hQ => ?_)
  subst e1
  subst e2
  refine x_iload_n hG dX2_isYard_0 rfl rfl ?_
  refine x_if_lt (tgt := 21) hG dX2_isYard_1 (by decide) (fun hc1 => ?_) (fun hc1 => ?_)
  · have h := h.1 hc1
    refine x_iconst (v := (0 : Int32)) hG dX2_isYard_21 (by decide) ?_
    exact x_iret hG hQ dX2_isYard_22 rfl h
  · have h := h.2 hc1
    refine x_iload_n hG dX2_isYard_4 rfl rfl ?_
    refine x_aload_n hG dX2_isYard_5 rfl rfl ?_
    refine x_get_2_0 hG dX2_isYard_6 hk0 hin_X2_isYard_X2 (List.mem_of_getElem? (i := 1) rfl) ?_
    refine x_aload_n hG dX2_isYard_9 rfl rfl ?_
    refine x_get_2_1 hG dX2_isYard_10 hk0 hin_X2_isYard_X2 (List.mem_of_getElem? (i := 2) rfl) ?_
    refine x_imul hG dX2_isYard_13 ?_
    refine x_icmp_ge (tgt := 21) hG dX2_isYard_14 (by decide) (fun hc2 => ?_) (fun hc2 => ?_)
    · have h := h.1 hc2
      refine x_iconst (v := (0 : Int32)) hG dX2_isYard_21 (by decide) ?_
      exact x_iret hG hQ dX2_isYard_22 rfl h
    · have h := h.2 hc2
      refine x_iconst (v := (1 : Int32)) hG dX2_isYard_17 (by decide) ?_
      refine x_goto (tgt := 22) hG dX2_isYard_18 (by decide) ?_
      exact x_iret hG hQ dX2_isYard_22 rfl h
abbrev rm_X2_isWorker : Room := { frames := 0, cells := 0, slots := 0, locals := 0 }
theorem hy_X2_isWorker : yX2_isWorker.cls = RX2 ∧ yX2_isWorker.cls ≠ "java/lang/invoke/MethodHandle" ∧ yX2_isWorker.cls ≠ "java/lang/invoke/VarHandle" ∧ (parseMethodDescriptor yX2_isWorker.desc).map (fun d => d.parameters.length) = some 1 := by decide +kernel
theorem hin_X2_isWorker_X2 : ∀ w ∈ wsX20, w ∈ wsX2_isWorker := fun _ h => List.mem_cons_of_mem _ (List.mem_append_right _ h)
set_option maxRecDepth 100000 in
set_option maxHeartbeats 4000000 in
theorem c_X2_isWorker {l : Launch} {a : Nat → Nat} {M : xMem} {h0 : Nat} {p1 : Int32} {post : Int32 → xMem → Prop} (ha : xInj a) (h : w_X2_isWorker M h0 p1 post) : ∀ D cs sz, xMetI l yX2_isWorker wsX2_isWorker rm_X2_isWorker D a cs sz M [.ref (a h0), .int p1] post := by
  intro D cs sz
  unfold w_X2_isWorker at h
  obtain ⟨hk0, h⟩ := h
  refine x_metI (ty := .boolean) [some (.ref (a h0)), some (.int p1)] (by decide) rfl rfl (Nat.le_of_ble_eq_true rfl) rfl rfl ha D cs sz rfl (fun G e1 e2 hG hQ => ?_)
  subst e1
  subst e2
  refine x_iload_n hG dX2_isWorker_0 rfl rfl ?_
  refine x_if_lt (tgt := 16) hG dX2_isWorker_1 (by decide) (fun hc1 => ?_) (fun hc1 => ?_)
  · have h := h.1 hc1
    refine x_iconst (v := (0 : Int32)) hG dX2_isWorker_16 (by decide) ?_
    exact x_iret hG hQ dX2_isWorker_17 rfl h
  · have h := h.2 hc1
    refine x_iload_n hG dX2_isWorker_4 rfl rfl ?_
    refine x_aload_n hG dX2_isWorker_5 rfl rfl ?_
    refine x_get_2_2 hG dX2_isWorker_6 hk0 hin_X2_isWorker_X2 (List.mem_of_getElem? (i := 1) rfl) ?_
    refine x_icmp_ge (tgt := 16) hG dX2_isWorker_9 (by decide) (fun hc2 => ?_) (fun hc2 => ?_)
    · have h := h.1 hc2
      refine x_iconst (v := (0 : Int32)) hG dX2_isWorker_16 (by decide) ?_
      exact x_iret hG hQ dX2_isWorker_17 rfl h
    · have h := h.2 hc2
      refine x_iconst (v := (1 : Int32)) hG dX2_isWorker_12 (by decide) ?_
      refine x_goto (tgt := 17) hG dX2_isWorker_13 (by decide) ?_
      exact x_iret hG hQ dX2_isWorker_17 rfl h
abbrev rm_X2_isDeed : Room := { frames := 0, cells := 0, slots := 0, locals := 0 }
theorem hy_X2_isDeed : yX2_isDeed.cls = RX2 ∧ yX2_isDeed.cls ≠ "java/lang/invoke/MethodHandle" ∧ yX2_isDeed.cls ≠ "java/lang/invoke/VarHandle" ∧ (parseMethodDescriptor yX2_isDeed.desc).map (fun d => d.parameters.length) = some 1 := by decide +kernel
theorem hin_X2_isDeed_X2 : ∀ w ∈ wsX20, w ∈ wsX2_isDeed := fun _ h => List.mem_cons_of_mem _ (List.mem_append_right _ h)
set_option maxRecDepth 100000 in
set_option maxHeartbeats 4000000 in
theorem c_X2_isDeed {l : Launch} {a : Nat → Nat} {M : xMem} {h0 : Nat} {p1 : Int32} {post : Int32 → xMem → Prop} (ha : xInj a) (h : w_X2_isDeed M h0 p1 post) : ∀ D cs sz, xMetI l yX2_isDeed wsX2_isDeed rm_X2_isDeed D a cs sz M [.ref (a h0), .int p1] post := by
  intro D cs sz
  unfold w_X2_isDeed at h
  obtain ⟨hk0, h⟩ := h
  refine x_metI (ty := .boolean) [some (.ref (a h0)), some (.int p1)] (by decide) rfl rfl (Nat.le_of_ble_eq_true rfl) rfl rfl ha D cs sz rfl (fun G e1 e2 hG hQ => ?_)
  subst e1
  subst e2
  refine x_iload_n hG dX2_isDeed_0 rfl rfl ?_
  refine x_if_lt (tgt := 16) hG dX2_isDeed_1 (by decide) (fun hc1 => ?_) (fun hc1 => ?_)
  · have h := h.1 hc1
    refine x_iconst (v := (0 : Int32)) hG dX2_isDeed_16 (by decide) ?_
    exact x_iret hG hQ dX2_isDeed_17 rfl h
  · have h := h.2 hc1
    refine x_iload_n hG dX2_isDeed_4 rfl rfl ?_
    refine x_aload_n hG dX2_isDeed_5 rfl rfl ?_
    refine x_get_2_3 hG dX2_isDeed_6 hk0 hin_X2_isDeed_X2 (List.mem_of_getElem? (i := 1) rfl) ?_
    refine x_icmp_ge (tgt := 16) hG dX2_isDeed_9 (by decide) (fun hc2 => ?_) (fun hc2 => ?_)
    · have h := h.1 hc2
      refine x_iconst (v := (0 : Int32)) hG dX2_isDeed_16 (by decide) ?_
      exact x_iret hG hQ dX2_isDeed_17 rfl h
    · have h := h.2 hc2
      refine x_iconst (v := (1 : Int32)) hG dX2_isDeed_12 (by decide) ?_
      refine x_goto (tgt := 17) hG dX2_isDeed_13 (by decide) ?_
      exact x_iret hG hQ dX2_isDeed_17 rfl h
abbrev rm_X2_allWorkers : Room := { frames := 0, cells := 0, slots := 0, locals := 0 }
theorem hy_X2_allWorkers : yX2_allWorkers.cls = RX2 ∧ yX2_allWorkers.cls ≠ "java/lang/invoke/MethodHandle" ∧ yX2_allWorkers.cls ≠ "java/lang/invoke/VarHandle" ∧ (parseMethodDescriptor yX2_allWorkers.desc).map (fun d => d.parameters.length) = some 0 := by decide +kernel
theorem hin_X2_allWorkers_X2 : ∀ w ∈ wsX20, w ∈ wsX2_allWorkers := fun _ h => List.mem_cons_of_mem _ (List.mem_append_right _ h)
set_option maxRecDepth 100000 in
set_option maxHeartbeats 4000000 in
theorem c_X2_allWorkers {l : Launch} {a : Nat → Nat} {M : xMem} {h0 : Nat} {post : Int32 → xMem → Prop} (ha : xInj a) (h : w_X2_allWorkers M h0 post) : ∀ D cs sz, xMetI l yX2_allWorkers wsX2_allWorkers rm_X2_allWorkers D a cs sz M [.ref (a h0)] post := by
  intro D cs sz
  unfold w_X2_allWorkers at h
  obtain ⟨hk0, h⟩ := h
  refine x_metI (ty := .int) [some (.ref (a h0))] (by decide) rfl rfl (Nat.le_of_ble_eq_true rfl) rfl rfl ha D cs sz rfl (fun G e1 e2 hG hQ => ?_)
  subst e1
  subst e2
  refine x_iconst (v := (1 : Int32)) hG dX2_allWorkers_0 (by decide) ?_
  refine x_aload_n hG dX2_allWorkers_1 rfl rfl ?_
  refine x_get_2_2 hG dX2_allWorkers_2 hk0 hin_X2_allWorkers_X2 (List.mem_of_getElem? (i := 1) rfl) ?_
  refine x_ishl hG dX2_allWorkers_5 ?_
  refine x_iconst (v := (1 : Int32)) hG dX2_allWorkers_6 (by decide) ?_
  refine x_isub hG dX2_allWorkers_7 ?_
  exact x_iret hG hQ dX2_allWorkers_8 rfl h
abbrev rm_X2_beyond : Room := { frames := 1, cells := 0, slots := 0, locals := 21 }
theorem hy_X2_beyond : yX2_beyond.cls = RX2 ∧ yX2_beyond.cls ≠ "java/lang/invoke/MethodHandle" ∧ yX2_beyond.cls ≠ "java/lang/invoke/VarHandle" ∧ (parseMethodDescriptor yX2_beyond.desc).map (fun d => d.parameters.length) = some 1 := by decide +kernel
theorem hin_X2_beyond_X2 : ∀ w ∈ wsX20, w ∈ wsX2_beyond := fun _ h => List.mem_cons_of_mem _ (List.mem_append_right _ h)
set_option maxRecDepth 100000 in
set_option maxHeartbeats 4000000 in
theorem c_X2_beyond {l : Launch} {a : Nat → Nat} {M : xMem} {h0 : Nat} {p1 : Int32} {post : Int32 → xMem → Prop} (ha : xInj a) (h : w_X2_beyond M h0 p1 post) : ∀ D cs sz, xMetI l yX2_beyond wsX2_beyond rm_X2_beyond D a cs sz M [.ref (a h0), .int p1] post := by
  intro D cs sz
  unfold w_X2_beyond at h
  obtain ⟨hk0, h⟩ := h
  refine x_metI (ty := .int) [some (.ref (a h0)), some (.int p1), none] (by decide) rfl rfl (Nat.le_of_ble_eq_true rfl) rfl rfl ha D cs sz rfl (fun G e1 e2 hG hQ => ?_)
  subst e1
  subst e2
  refine x_iload_n hG dX2_beyond_0 rfl rfl ?_
  refine x_iconst (v := (2 : Int32)) hG dX2_beyond_1 (by decide) ?_
  refine x_idiv hG dX2_beyond_2 (by decide) ?_
  refine x_istore_n hG dX2_beyond_3 rfl (Nat.le_of_ble_eq_true rfl) rfl ?_
  refine x_iload_n hG dX2_beyond_4 rfl rfl ?_
  refine x_if_lt (tgt := 24) hG dX2_beyond_5 (by decide) (fun hc1 => ?_) (fun hc1 => ?_)
  · have h := h.1 hc1
    refine x_bipush (v := (-9 : Int32)) hG dX2_beyond_24 (by decide) ?_
    exact x_iret hG hQ dX2_beyond_26 rfl h
  · have h := h.2 hc1
    refine x_aload_n hG dX2_beyond_8 rfl rfl ?_
    refine x_iload_n hG dX2_beyond_9 rfl rfl ?_
    refine x_cVI1 hG dX2_beyond_10 (fun ha => c_X2_isYard ha h) gX2_beyond_X2_isYard rfl ⟨rfl, rfl⟩ hy_X2_isYard ⟨Nat.le_of_ble_eq_true rfl, Nat.le_of_ble_eq_true rfl⟩ (kd_lt hk0 (by decide)) (fun _ => xc_2 hk0) rfl (Nat.le_of_ble_eq_true rfl) (fun z2 M3 h => ?_)
    refine x_if_eq (tgt := 24) hG dX2_beyond_13 (by decide) (fun hc4 => ?_) (fun hc4 => ?_)
    · have h := h.1 hc4
      refine x_bipush (v := (-9 : Int32)) hG dX2_beyond_24 (by decide) ?_
      exact x_iret hG hQ dX2_beyond_26 rfl h
    · have h := h.2 hc4
      refine x_aload_n hG dX2_beyond_16 rfl rfl ?_
      refine x_get_2_0 hG dX2_beyond_17 hk0 hin_X2_beyond_X2 (List.mem_of_getElem? (i := 1) rfl) ?_
      refine x_iconst (v := (1 : Int32)) hG dX2_beyond_20 (by decide) ?_
      refine x_icmp_ge (tgt := 27) hG dX2_beyond_21 (by decide) (fun hc5 => ?_) (fun hc5 => ?_)
      · have h := h.1 hc5
        refine x_iload_n hG dX2_beyond_27 rfl rfl ?_
        refine x_iconst (v := (2 : Int32)) hG dX2_beyond_28 (by decide) ?_
        refine x_irem hG dX2_beyond_29 (by decide) ?_
        refine x_if_ne (tgt := 53) hG dX2_beyond_30 (by decide) (fun hc6 => ?_) (fun hc6 => ?_)
        · have h := h.1 hc6
          refine x_aload_n hG dX2_beyond_53 rfl rfl ?_
          refine x_iload_n hG dX2_beyond_54 rfl rfl ?_
          refine x_aload_n hG dX2_beyond_55 rfl rfl ?_
          refine x_get_2_0 hG dX2_beyond_56 hk0 hin_X2_beyond_X2 (List.mem_of_getElem? (i := 1) rfl) ?_
          refine x_iadd hG dX2_beyond_59 ?_
          refine x_cVI1 hG dX2_beyond_60 (fun ha => c_X2_isYard ha h) gX2_beyond_X2_isYard rfl ⟨rfl, rfl⟩ hy_X2_isYard ⟨Nat.le_of_ble_eq_true rfl, Nat.le_of_ble_eq_true rfl⟩ (kd_lt hk0 (by decide)) (fun _ => xc_2 hk0) rfl (Nat.le_of_ble_eq_true rfl) (fun z7 M8 h => ?_)
          refine x_if_eq (tgt := 75) hG dX2_beyond_63 (by decide) (fun hc9 => ?_) (fun hc9 => ?_)
          · have h := h.1 hc9
            refine x_bipush (v := (-9 : Int32)) hG dX2_beyond_75 (by decide) ?_
            exact x_iret hG hQ dX2_beyond_77 rfl h
          · have h := h.2 hc9
            refine x_iload_n hG dX2_beyond_66 rfl rfl ?_
            refine x_aload_n hG dX2_beyond_67 rfl rfl ?_
            refine x_get_2_0 hG dX2_beyond_68 hk0 hin_X2_beyond_X2 (List.mem_of_getElem? (i := 1) rfl) ?_
            refine x_iadd hG dX2_beyond_71 ?_
            refine x_goto (tgt := 77) hG dX2_beyond_72 (by decide) ?_
            exact x_iret hG hQ dX2_beyond_77 rfl h
        · have h := h.2 hc6
          refine x_iload_n hG dX2_beyond_33 rfl rfl ?_
          refine x_iconst (v := (1 : Int32)) hG dX2_beyond_34 (by decide) ?_
          refine x_iadd hG dX2_beyond_35 ?_
          refine x_aload_n hG dX2_beyond_36 rfl rfl ?_
          refine x_get_2_0 hG dX2_beyond_37 hk0 hin_X2_beyond_X2 (List.mem_of_getElem? (i := 1) rfl) ?_
          obtain ⟨hz10, h⟩ := h
          refine x_irem hG dX2_beyond_40 hz10 ?_
          refine x_if_ne (tgt := 49) hG dX2_beyond_41 (by decide) (fun hc11 => ?_) (fun hc11 => ?_)
          · have h := h.1 hc11
            refine x_iload_n hG dX2_beyond_49 rfl rfl ?_
            refine x_iconst (v := (1 : Int32)) hG dX2_beyond_50 (by decide) ?_
            refine x_iadd hG dX2_beyond_51 ?_
            exact x_iret hG hQ dX2_beyond_52 rfl h
          · have h := h.2 hc11
            refine x_bipush (v := (-9 : Int32)) hG dX2_beyond_44 (by decide) ?_
            refine x_goto (tgt := 52) hG dX2_beyond_46 (by decide) ?_
            exact x_iret hG hQ dX2_beyond_52 rfl h
      · have h := h.2 hc5
        refine x_bipush (v := (-9 : Int32)) hG dX2_beyond_24 (by decide) ?_
        exact x_iret hG hQ dX2_beyond_26 rfl h
abbrev rm_X2_borderOf : Room := { frames := 2, cells := 0, slots := 0, locals := 43 }
theorem hy_X2_borderOf : yX2_borderOf.cls = RX2 ∧ yX2_borderOf.cls ≠ "java/lang/invoke/MethodHandle" ∧ yX2_borderOf.cls ≠ "java/lang/invoke/VarHandle" ∧ (parseMethodDescriptor yX2_borderOf.desc).map (fun d => d.parameters.length) = some 2 := by decide +kernel
set_option maxRecDepth 100000 in
set_option maxHeartbeats 4000000 in
theorem c_X2_borderOf {l : Launch} {a : Nat → Nat} {M : xMem} {h0 : Nat} {p1 : Int32} {p2 : Int32} {post : Int32 → xMem → Prop} (ha : xInj a) (h : w_X2_borderOf M h0 p1 p2 post) : ∀ D cs sz, xMetI l yX2_borderOf wsX2_borderOf rm_X2_borderOf D a cs sz M [.ref (a h0), .int p1, .int p2] post := by
  intro D cs sz
  unfold w_X2_borderOf at h
  obtain ⟨hk0, h⟩ := h
  refine x_metI (ty := .int) [some (.ref (a h0)), some (.int p1), some (.int p2), none, none] (by decide) rfl rfl (Nat.le_of_ble_eq_true rfl) rfl rfl ha D cs sz rfl (fun G e1 e2 hG hQ => ?_)
  subst e1
  subst e2
  refine x_aload_n hG dX2_borderOf_0 rfl rfl ?_
  refine x_iload_n hG dX2_borderOf_1 rfl rfl ?_
  refine x_cVI1 hG dX2_borderOf_2 (fun ha => c_X2_isYard ha h) gX2_borderOf_X2_isYard rfl ⟨rfl, rfl⟩ hy_X2_isYard ⟨Nat.le_of_ble_eq_true rfl, Nat.le_of_ble_eq_true rfl⟩ (kd_lt hk0 (by decide)) (fun _ => xc_2 hk0) rfl (Nat.le_of_ble_eq_true rfl) (fun z1 M2 h => ?_)
  refine x_if_eq (tgt := 16) hG dX2_borderOf_5 (by decide) (fun hc3 => ?_) (fun hc3 => ?_)
  · have h := h.1 hc3
    refine x_bipush (v := (-9 : Int32)) hG dX2_borderOf_16 (by decide) ?_
    exact x_iret hG hQ dX2_borderOf_18 rfl h
  · have h := h.2 hc3
    refine x_aload_n hG dX2_borderOf_8 rfl rfl ?_
    refine x_iload_n hG dX2_borderOf_9 rfl rfl ?_
    refine x_cVI1 hG dX2_borderOf_10 (fun ha => c_X2_isYard ha h) gX2_borderOf_X2_isYard rfl ⟨rfl, rfl⟩ hy_X2_isYard ⟨Nat.le_of_ble_eq_true rfl, Nat.le_of_ble_eq_true rfl⟩ (kd_lt hk0 (by decide)) (fun _ => xc_2 hk0) rfl (Nat.le_of_ble_eq_true rfl) (fun z4 M5 h => ?_)
    refine x_if_ne (tgt := 19) hG dX2_borderOf_13 (by decide) (fun hc6 => ?_) (fun hc6 => ?_)
    · have h := h.1 hc6
      refine x_iload_n hG dX2_borderOf_19 rfl rfl ?_
      refine x_iload_n hG dX2_borderOf_20 rfl rfl ?_
      refine x_mmin hG dX2_borderOf_21 (List.mem_of_getElem? (i := 1) rfl) (List.mem_of_getElem? (i := 2) rfl) (List.mem_of_getElem? (i := 3) rfl) (List.mem_of_getElem? (i := 4) rfl) (Nat.le_of_ble_eq_true rfl) (Nat.le_of_ble_eq_true rfl) ?_
      refine x_istore_n hG dX2_borderOf_24 rfl (Nat.le_of_ble_eq_true rfl) rfl ?_
      refine x_iload_n hG dX2_borderOf_25 rfl rfl ?_
      refine x_iload_n hG dX2_borderOf_26 rfl rfl ?_
      refine x_mmax hG dX2_borderOf_27 (List.mem_of_getElem? (i := 5) rfl) (List.mem_of_getElem? (i := 6) rfl) (List.mem_of_getElem? (i := 3) rfl) (List.mem_of_getElem? (i := 7) rfl) (Nat.le_of_ble_eq_true rfl) (Nat.le_of_ble_eq_true rfl) ?_
      refine x_istore hG dX2_borderOf_30 (Nat.le_of_ble_eq_true rfl) rfl ?_
      refine x_aload_n hG dX2_borderOf_32 rfl rfl ?_
      refine x_iconst (v := (2 : Int32)) hG dX2_borderOf_33 (by decide) ?_
      refine x_iload_n hG dX2_borderOf_34 rfl rfl ?_
      refine x_imul hG dX2_borderOf_35 ?_
      refine x_cVI1 hG dX2_borderOf_36 (fun ha => c_X2_beyond ha h) gX2_borderOf_X2_beyond rfl ⟨rfl, rfl⟩ hy_X2_beyond ⟨Nat.le_of_ble_eq_true rfl, Nat.le_of_ble_eq_true rfl⟩ (kd_lt hk0 (by decide)) (fun _ => xc_2 hk0) rfl (Nat.le_of_ble_eq_true rfl) (fun z7 M8 h => ?_)
      refine x_iload hG dX2_borderOf_39 rfl ?_
      refine x_icmp_ne (tgt := 48) hG dX2_borderOf_41 (by decide) (fun hc9 => ?_) (fun hc9 => ?_)
      · have h := h.1 hc9
        refine x_aload_n hG dX2_borderOf_48 rfl rfl ?_
        refine x_iconst (v := (2 : Int32)) hG dX2_borderOf_49 (by decide) ?_
        refine x_iload_n hG dX2_borderOf_50 rfl rfl ?_
        refine x_imul hG dX2_borderOf_51 ?_
        refine x_iconst (v := (1 : Int32)) hG dX2_borderOf_52 (by decide) ?_
        refine x_iadd hG dX2_borderOf_53 ?_
        refine x_cVI1 hG dX2_borderOf_54 (fun ha => c_X2_beyond ha h) gX2_borderOf_X2_beyond rfl ⟨rfl, rfl⟩ hy_X2_beyond ⟨Nat.le_of_ble_eq_true rfl, Nat.le_of_ble_eq_true rfl⟩ (kd_lt hk0 (by decide)) (fun _ => xc_2 hk0) rfl (Nat.le_of_ble_eq_true rfl) (fun z10 M11 h => ?_)
        refine x_iload hG dX2_borderOf_57 rfl ?_
        refine x_icmp_ne (tgt := 68) hG dX2_borderOf_59 (by decide) (fun hc12 => ?_) (fun hc12 => ?_)
        · have h := h.1 hc12
          refine x_bipush (v := (-9 : Int32)) hG dX2_borderOf_68 (by decide) ?_
          exact x_iret hG hQ dX2_borderOf_70 rfl h
        · have h := h.2 hc12
          refine x_iconst (v := (2 : Int32)) hG dX2_borderOf_62 (by decide) ?_
          refine x_iload_n hG dX2_borderOf_63 rfl rfl ?_
          refine x_imul hG dX2_borderOf_64 ?_
          refine x_iconst (v := (1 : Int32)) hG dX2_borderOf_65 (by decide) ?_
          refine x_iadd hG dX2_borderOf_66 ?_
          exact x_iret hG hQ dX2_borderOf_67 rfl h
      · have h := h.2 hc9
        refine x_iconst (v := (2 : Int32)) hG dX2_borderOf_44 (by decide) ?_
        refine x_iload_n hG dX2_borderOf_45 rfl rfl ?_
        refine x_imul hG dX2_borderOf_46 ?_
        exact x_iret hG hQ dX2_borderOf_47 rfl h
    · have h := h.2 hc6
      refine x_bipush (v := (-9 : Int32)) hG dX2_borderOf_16 (by decide) ?_
      exact x_iret hG hQ dX2_borderOf_18 rfl h
abbrev rm_X2_isOwned : Room := { frames := 0, cells := 0, slots := 0, locals := 0 }
theorem hy_X2_isOwned : yX2_isOwned.cls = RX2 ∧ yX2_isOwned.cls ≠ "java/lang/invoke/MethodHandle" ∧ yX2_isOwned.cls ≠ "java/lang/invoke/VarHandle" ∧ (parseMethodDescriptor yX2_isOwned.desc).map (fun d => d.parameters.length) = some 2 := by decide +kernel
theorem hin_X2_isOwned_X2 : ∀ w ∈ wsX20, w ∈ wsX2_isOwned := fun _ h => List.mem_cons_of_mem _ (List.mem_append_right _ h)
set_option maxRecDepth 100000 in
set_option maxHeartbeats 4000000 in
theorem k_X2_isOwned_37 {G : xG} {post : Int32 → xMem → Prop} (hG : xOk G cX2_isOwned RX2 wsX2_isOwned rm_X2_isOwned) (hQ : xRetI G post .boolean) (h0 : Nat) (hk0 : kd h0 = 2) {r2 : xMem → Int32 → Int32 → Int32 → Prop} (hr2 : ∀ (M : xMem) (p1 : Int32) (p2 : Int32) (p3 : Int32), r2 M p1 p2 p3 → xW G M [some (.ref (xa G h0)), some (.int p1), some (.int p2), some (.int p3)] [] 2) : ∀ (M : xMem) (p1 : Int32) (p2 : Int32) (p3 : Int32), b_X2_isOwned_37 post h0 r2 M p1 p2 p3 → xW G M [some (.ref (xa G h0)), some (.int p1), some (.int p2), some (.int p3)] [] 37 := by
  intro M p1 p2 p3 h
  unfold b_X2_isOwned_37 at h
  refine x_iinc (v := _) hG dX2_isOwned_37 rfl (x_iincE (k := 1) (by decide)) (Nat.le_of_ble_eq_true rfl) rfl ?_
  refine x_goto (tgt := 2) hG dX2_isOwned_40 (by decide) ?_
  refine x_keep [true, true, true, true] rfl ?_
  exact hr2 _ _ _ _ h
set_option maxRecDepth 100000 in
set_option maxHeartbeats 4000000 in
theorem k_X2_isOwned_2 {G : xG} {post : Int32 → xMem → Prop} (hG : xOk G cX2_isOwned RX2 wsX2_isOwned rm_X2_isOwned) (hQ : xRetI G post .boolean) (h0 : Nat) (hk0 : kd h0 = 2) : ∀ (M : xMem) (p1 : Int32) (p2 : Int32) (p3 : Int32), xlp4 (b_X2_isOwned_2 post h0) M p1 p2 p3 → xW G M [some (.ref (xa G h0)), some (.int p1), some (.int p2), some (.int p3)] [] 2 := by
  refine xlp4_W (W := fun M p1 p2 p3 => xW G M [some (.ref (xa G h0)), some (.int p1), some (.int p2), some (.int p3)] [] 2) (fun r2 hr2 => ?_)
  intro M p1 p2 p3 h
  unfold b_X2_isOwned_2 at h
  refine x_iload_n hG dX2_isOwned_2 rfl rfl ?_
  refine x_aload_n hG dX2_isOwned_3 rfl rfl ?_
  refine x_get_2_3 hG dX2_isOwned_4 hk0 hin_X2_isOwned_X2 (List.mem_of_getElem? (i := 1) rfl) ?_
  refine x_icmp_ge (tgt := 43) hG dX2_isOwned_7 (by decide) (fun hc1 => ?_) (fun hc1 => ?_)
  · have h := h.1 hc1
    refine x_iconst (v := (0 : Int32)) hG dX2_isOwned_43 (by decide) ?_
    exact x_iret hG hQ dX2_isOwned_44 rfl h
  · have h := h.2 hc1
    refine x_aload_n hG dX2_isOwned_10 rfl rfl ?_
    refine x_get_2_7 hG dX2_isOwned_11 hk0 hin_X2_isOwned_X2 (List.mem_of_getElem? (i := 2) rfl) ?_
    refine x_iload_n hG dX2_isOwned_14 rfl rfl ?_
    obtain ⟨hi2, h⟩ := h
    refine x_iaload hG dX2_isOwned_15 (kf_2_7 hk0).1 (x_inE (kf_2_7 hk0).2 hi2) ?_
    refine x_iload_n hG dX2_isOwned_16 rfl rfl ?_
    refine x_ishr hG dX2_isOwned_17 ?_
    refine x_iconst (v := (1 : Int32)) hG dX2_isOwned_18 (by decide) ?_
    refine x_iand hG dX2_isOwned_19 ?_
    refine x_if_eq (tgt := 37) hG dX2_isOwned_20 (by decide) (fun hc3 => ?_) (fun hc3 => ?_)
    · have h := h.1 hc3
      refine x_keep [true, true, true, true] rfl ?_
      exact k_X2_isOwned_37 hG hQ h0 hk0 hr2 _ _ _ _ h
    · have h := h.2 hc3
      refine x_aload_n hG dX2_isOwned_23 rfl rfl ?_
      refine x_get_2_6 hG dX2_isOwned_24 hk0 hin_X2_isOwned_X2 (List.mem_of_getElem? (i := 3) rfl) ?_
      refine x_iload_n hG dX2_isOwned_27 rfl rfl ?_
      obtain ⟨hi4, h⟩ := h
      refine x_aaload11 hG dX2_isOwned_28 (kf_2_6 hk0).1 (x_inE (kf_2_6 hk0).2 hi4) ?_
      refine x_iconst (v := (0 : Int32)) hG dX2_isOwned_29 (by decide) ?_
      refine x_iaload hG dX2_isOwned_30 (ke_2_6 hk0 (vp_lt hi4)).1 (x_inE (ke_2_6 hk0 (vp_lt hi4)).2 (x_inC (by decide))) ?_
      refine x_iload_n hG dX2_isOwned_31 rfl rfl ?_
      refine x_icmp_ne (tgt := 37) hG dX2_isOwned_32 (by decide) (fun hc5 => ?_) (fun hc5 => ?_)
      · have h := h.1 hc5
        refine x_keep [true, true, true, true] rfl ?_
        exact k_X2_isOwned_37 hG hQ h0 hk0 hr2 _ _ _ _ h
      · have h := h.2 hc5
        refine x_iconst (v := (1 : Int32)) hG dX2_isOwned_35 (by decide) ?_
        exact x_iret hG hQ dX2_isOwned_36 rfl h
set_option maxRecDepth 100000 in
set_option maxHeartbeats 4000000 in
theorem c_X2_isOwned {l : Launch} {a : Nat → Nat} {M : xMem} {h0 : Nat} {p1 : Int32} {p2 : Int32} {post : Int32 → xMem → Prop} (ha : xInj a) (h : w_X2_isOwned M h0 p1 p2 post) : ∀ D cs sz, xMetI l yX2_isOwned wsX2_isOwned rm_X2_isOwned D a cs sz M [.ref (a h0), .int p1, .int p2] post := by
  intro D cs sz
  unfold w_X2_isOwned at h
  obtain ⟨hk0, h⟩ := h
  refine x_metI (ty := .boolean) [some (.ref (a h0)), some (.int p1), some (.int p2), none] (by decide) rfl rfl (Nat.le_of_ble_eq_true rfl) rfl rfl ha D cs sz rfl (fun G e1 e2 hG hQ => ?_)
  subst e1
  subst e2
  refine x_iconst (v := (0 : Int32)) hG dX2_isOwned_0 (by decide) ?_
  refine x_istore_n hG dX2_isOwned_1 rfl (Nat.le_of_ble_eq_true rfl) rfl ?_
  refine x_keep [true, true, true, true] rfl ?_
  exact k_X2_isOwned_2 hG hQ h0 hk0 _ _ _ _ h
abbrev rm_X2_settleHours : Room := { frames := 1, cells := 0, slots := 0, locals := 23 }
theorem hy_X2_settleHours : yX2_settleHours.cls = RX2 ∧ yX2_settleHours.cls ≠ "java/lang/invoke/MethodHandle" ∧ yX2_settleHours.cls ≠ "java/lang/invoke/VarHandle" ∧ (parseMethodDescriptor yX2_settleHours.desc).map (fun d => d.parameters.length) = some 1 := by decide +kernel
theorem hin_X2_settleHours_X2 : ∀ w ∈ wsX20, w ∈ wsX2_settleHours := fun _ h => List.mem_cons_of_mem _ (List.mem_append_right _ h)
set_option maxRecDepth 100000 in
set_option maxHeartbeats 4000000 in
theorem k_X2_settleHours_63 {G : xG} {post : xMem → Prop} (hG : xOk G cX2_settleHours RX2 wsX2_settleHours rm_X2_settleHours) (hQ : xRetV G post) (h0 : Nat) (hk0 : kd h0 = 2) {r15 : xMem → Int32 → Nat → Int32 → Prop} (hr15 : ∀ (M : xMem) (p1 : Int32) (p2 : Nat) (p3 : Int32), r15 M p1 p2 p3 → xW G M [some (.ref (xa G h0)), some (.int p1), some (.ref (xa G p2)), some (.int p3)] [] 15) : ∀ (M : xMem) (p1 : Int32) (p2 : Nat) (p3 : Int32), b_X2_settleHours_63 post h0 r15 M p1 p2 p3 → xW G M [some (.ref (xa G h0)), some (.int p1), some (.ref (xa G p2)), some (.int p3)] [] 63 := by
  intro M p1 p2 p3 h
  unfold b_X2_settleHours_63 at h
  refine x_iinc (v := _) hG dX2_settleHours_63 rfl (x_iincE (k := 1) (by decide)) (Nat.le_of_ble_eq_true rfl) rfl ?_
  refine x_goto (tgt := 15) hG dX2_settleHours_66 (by decide) ?_
  refine x_keep [true, true, true, true] rfl ?_
  exact hr15 _ _ _ _ h
set_option maxRecDepth 100000 in
set_option maxHeartbeats 4000000 in
theorem k_X2_settleHours_15 {G : xG} {post : xMem → Prop} (hG : xOk G cX2_settleHours RX2 wsX2_settleHours rm_X2_settleHours) (hQ : xRetV G post) (h0 : Nat) (hk0 : kd h0 = 2) : ∀ (M : xMem) (p1 : Int32) (p2 : Nat) (p3 : Int32), xlp4 (b_X2_settleHours_15 post h0) M p1 p2 p3 → xW G M [some (.ref (xa G h0)), some (.int p1), some (.ref (xa G p2)), some (.int p3)] [] 15 := by
  refine xlp4_W (W := fun M p1 p2 p3 => xW G M [some (.ref (xa G h0)), some (.int p1), some (.ref (xa G p2)), some (.int p3)] [] 15) (fun r15 hr15 => ?_)
  intro M p1 p2 p3 h
  unfold b_X2_settleHours_15 at h
  refine x_iload_n hG dX2_settleHours_15 rfl rfl ?_
  refine x_aload_n hG dX2_settleHours_16 rfl rfl ?_
  refine x_iconst (v := (2 : Int32)) hG dX2_settleHours_17 (by decide) ?_
  obtain ⟨hk1, h⟩ := h
  obtain ⟨hi2, h⟩ := h
  refine x_iaload hG dX2_settleHours_18 hk1 hi2 ?_
  refine x_icmp_gt (tgt := 69) hG dX2_settleHours_19 (by decide) (fun hc3 => ?_) (fun hc3 => ?_)
  · have h := h.1 hc3
    exact x_vret hG hQ dX2_settleHours_69 h
  · have h := h.2 hc3
    refine x_iload_n hG dX2_settleHours_22 rfl rfl ?_
    refine x_bipush (v := (12 : Int32)) hG dX2_settleHours_23 (by decide) ?_
    refine x_icmp_ge (tgt := 69) hG dX2_settleHours_25 (by decide) (fun hc4 => ?_) (fun hc4 => ?_)
    · have h := h.1 hc4
      exact x_vret hG hQ dX2_settleHours_69 h
    · have h := h.2 hc4
      refine x_aload_n hG dX2_settleHours_28 rfl rfl ?_
      refine x_aload_n hG dX2_settleHours_29 rfl rfl ?_
      refine x_iconst (v := (0 : Int32)) hG dX2_settleHours_30 (by decide) ?_
      obtain ⟨hi5, h⟩ := h
      refine x_iaload hG dX2_settleHours_31 hk1 hi5 ?_
      refine x_iload_n hG dX2_settleHours_32 rfl rfl ?_
      refine x_cVI2 hG dX2_settleHours_33 (fun ha => c_X2_isOwned ha h) gX2_settleHours_X2_isOwned rfl ⟨rfl, rfl⟩ hy_X2_isOwned ⟨Nat.le_of_ble_eq_true rfl, Nat.le_of_ble_eq_true rfl⟩ (kd_lt hk0 (by decide)) (fun _ => xc_2 hk0) rfl (Nat.le_of_ble_eq_true rfl) (fun z6 M7 h => ?_)
      refine x_if_eq (tgt := 42) hG dX2_settleHours_36 (by decide) (fun hc8 => ?_) (fun hc8 => ?_)
      · have h := h.1 hc8
        refine x_aload_n hG dX2_settleHours_42 rfl rfl ?_
        refine x_iconst (v := (5 : Int32)) hG dX2_settleHours_43 (by decide) ?_
        refine x_dup2 hG dX2_settleHours_44 rfl rfl ?_
        obtain ⟨hi9, h⟩ := h
        refine x_iaload hG dX2_settleHours_45 hk1 hi9 ?_
        refine x_iconst (v := (1 : Int32)) hG dX2_settleHours_46 (by decide) ?_
        refine x_iload_n hG dX2_settleHours_47 rfl rfl ?_
        refine x_ishl hG dX2_settleHours_48 ?_
        refine x_ior hG dX2_settleHours_49 ?_
        have h := h _ rfl
        refine x_iastore hG dX2_settleHours_50 hk1 hi9 ?_
        refine x_aload_n hG dX2_settleHours_51 rfl rfl ?_
        refine x_get_2_7 hG dX2_settleHours_52 hk0 hin_X2_settleHours_X2 (List.mem_of_getElem? (i := 2) rfl) ?_
        refine x_iload_n hG dX2_settleHours_55 rfl rfl ?_
        refine x_dup2 hG dX2_settleHours_56 rfl rfl ?_
        obtain ⟨hi11, h⟩ := h
        refine x_iaload hG dX2_settleHours_57 (kf_2_7 hk0).1 (x_inE (kf_2_7 hk0).2 hi11) ?_
        refine x_iconst (v := (1 : Int32)) hG dX2_settleHours_58 (by decide) ?_
        refine x_iload_n hG dX2_settleHours_59 rfl rfl ?_
        refine x_ishl hG dX2_settleHours_60 ?_
        refine x_ior hG dX2_settleHours_61 ?_
        have h := h _ rfl
        refine x_iastore hG dX2_settleHours_62 (kf_2_7 hk0).1 (x_inE (kf_2_7 hk0).2 hi11) ?_
        refine x_keep [true, true, true, true] rfl ?_
        exact k_X2_settleHours_63 hG hQ h0 hk0 hr15 _ _ _ _ h
      · have h := h.2 hc8
        refine x_goto (tgt := 63) hG dX2_settleHours_39 (by decide) ?_
        refine x_keep [true, true, true, true] rfl ?_
        exact k_X2_settleHours_63 hG hQ h0 hk0 hr15 _ _ _ _ h
set_option maxRecDepth 100000 in
set_option maxHeartbeats 4000000 in
theorem c_X2_settleHours {l : Launch} {a : Nat → Nat} {M : xMem} {h0 : Nat} {p1 : Int32} {post : xMem → Prop} (ha : xInj a) (h : w_X2_settleHours M h0 p1 post) : ∀ D cs sz, xMetV l yX2_settleHours wsX2_settleHours rm_X2_settleHours D a cs sz M [.ref (a h0), .int p1] post := by
  intro D cs sz
  unfold w_X2_settleHours at h
  obtain ⟨hk0, h⟩ := h
  refine x_metV [some (.ref (a h0)), some (.int p1), none, none] (by decide) rfl rfl (Nat.le_of_ble_eq_true rfl) rfl rfl ha D cs sz rfl (fun G e1 e2 hG hQ => ?_)
  subst e1
  subst e2
  refine x_aload_n hG dX2_settleHours_0 rfl rfl ?_
  refine x_get_2_6 hG dX2_settleHours_1 hk0 hin_X2_settleHours_X2 (List.mem_of_getElem? (i := 1) rfl) ?_
  refine x_iload_n hG dX2_settleHours_4 rfl rfl ?_
  obtain ⟨hi1, h⟩ := h
  refine x_aaload11 hG dX2_settleHours_5 (kf_2_6 hk0).1 (x_inE (kf_2_6 hk0).2 hi1) ?_
  refine x_astore_n hG dX2_settleHours_6 rfl (Nat.le_of_ble_eq_true rfl) rfl ?_
  refine x_aload_n hG dX2_settleHours_7 rfl rfl ?_
  refine x_iconst (v := (5 : Int32)) hG dX2_settleHours_8 (by decide) ?_
  refine x_iconst (v := (0 : Int32)) hG dX2_settleHours_9 (by decide) ?_
  have h := h _ rfl
  refine x_iastore hG dX2_settleHours_10 (ke_2_6 hk0 (vp_lt hi1)).1 (x_inE (ke_2_6 hk0 (vp_lt hi1)).2 (x_inC (by decide))) ?_
  refine x_aload_n hG dX2_settleHours_11 rfl rfl ?_
  refine x_iconst (v := (1 : Int32)) hG dX2_settleHours_12 (by decide) ?_
  refine x_iaload hG dX2_settleHours_13 (ke_2_6 hk0 (vp_lt hi1)).1 (x_inE (ke_2_6 hk0 (vp_lt hi1)).2 (x_inC (by decide))) ?_
  have h := h _ rfl
  refine x_istore_n hG dX2_settleHours_14 rfl (Nat.le_of_ble_eq_true rfl) rfl ?_
  refine x_keep [true, true, true, true] rfl ?_
  exact k_X2_settleHours_15 hG hQ h0 hk0 _ _ _ _ h
abbrev rm_X2_settle : Room := { frames := 2, cells := 0, slots := 0, locals := 46 }
theorem hy_X2_settle : yX2_settle.cls = RX2 ∧ yX2_settle.cls ≠ "java/lang/invoke/MethodHandle" ∧ yX2_settle.cls ≠ "java/lang/invoke/VarHandle" ∧ (parseMethodDescriptor yX2_settle.desc).map (fun d => d.parameters.length) = some 0 := by decide +kernel
theorem hin_X2_settle_X2 : ∀ w ∈ wsX20, w ∈ wsX2_settle := fun _ h => List.mem_cons_of_mem _ (List.mem_append_right _ h)
set_option maxRecDepth 100000 in
set_option maxHeartbeats 4000000 in
theorem k_X2_settle_101 {G : xG} {post : xMem → Prop} (hG : xOk G cX2_settle RX2 wsX2_settle rm_X2_settle) (hQ : xRetV G post) (h0 : Nat) (hk0 : kd h0 = 2) {r87 : xMem → Int32 → Prop} (hr87 : ∀ (M : xMem) (p1 : Int32), r87 M p1 → xW G M [some (.ref (xa G h0)), some (.int p1), none, none] [] 87) : ∀ (M : xMem) (p1 : Int32) (p2 : Int32) (p3 : Int32), xlp4 (b_X2_settle_101 post h0 r87) M p1 p2 p3 → xW G M [some (.ref (xa G h0)), some (.int p1), some (.int p2), some (.int p3)] [] 101 := by
  refine xlp4_W (W := fun M p1 p2 p3 => xW G M [some (.ref (xa G h0)), some (.int p1), some (.int p2), some (.int p3)] [] 101) (fun r101 hr101 => ?_)
  intro M p1 p2 p3 h
  unfold b_X2_settle_101 at h
  refine x_iload_n hG dX2_settle_101 rfl rfl ?_
  refine x_iload_n hG dX2_settle_102 rfl rfl ?_
  refine x_icmp_ge (tgt := 135) hG dX2_settle_103 (by decide) (fun hc1 => ?_) (fun hc1 => ?_)
  · have h := h.1 hc1
    refine x_iinc (v := _) hG dX2_settle_135 rfl (x_iincE (k := 1) (by decide)) (Nat.le_of_ble_eq_true rfl) rfl ?_
    refine x_goto (tgt := 87) hG dX2_settle_138 (by decide) ?_
    refine x_keep [true, true, false, false] rfl ?_
    exact hr87 _ _ h
  · have h := h.2 hc1
    refine x_aload_n hG dX2_settle_106 rfl rfl ?_
    refine x_get_2_9 hG dX2_settle_107 hk0 hin_X2_settle_X2 (List.mem_of_getElem? (i := 6) rfl) ?_
    refine x_iload_n hG dX2_settle_110 rfl rfl ?_
    refine x_iload_n hG dX2_settle_111 rfl rfl ?_
    refine x_iadd hG dX2_settle_112 ?_
    refine x_aload_n hG dX2_settle_113 rfl rfl ?_
    refine x_get_2_9 hG dX2_settle_114 hk0 hin_X2_settle_X2 (List.mem_of_getElem? (i := 6) rfl) ?_
    refine x_iload_n hG dX2_settle_117 rfl rfl ?_
    obtain ⟨hi2, h⟩ := h
    refine x_iaload hG dX2_settle_118 (kf_2_9 hk0).1 (x_inE (kf_2_9 hk0).2 hi2) ?_
    refine x_aload_n hG dX2_settle_119 rfl rfl ?_
    refine x_get_2_6 hG dX2_settle_120 hk0 hin_X2_settle_X2 (List.mem_of_getElem? (i := 7) rfl) ?_
    refine x_iload_n hG dX2_settle_123 rfl rfl ?_
    obtain ⟨hi3, h⟩ := h
    refine x_aaload11 hG dX2_settle_124 (kf_2_6 hk0).1 (x_inE (kf_2_6 hk0).2 hi3) ?_
    refine x_iconst (v := (4 : Int32)) hG dX2_settle_125 (by decide) ?_
    refine x_iaload hG dX2_settle_126 (ke_2_6 hk0 (vp_lt hi3)).1 (x_inE (ke_2_6 hk0 (vp_lt hi3)).2 (x_inC (by decide))) ?_
    refine x_iadd hG dX2_settle_127 ?_
    obtain ⟨hi4, h⟩ := h
    have h := h _ rfl
    refine x_iastore hG dX2_settle_128 (kf_2_9 hk0).1 (x_inE (kf_2_9 hk0).2 hi4) ?_
    refine x_iinc (v := _) hG dX2_settle_129 rfl (x_iincE (k := 1) (by decide)) (Nat.le_of_ble_eq_true rfl) rfl ?_
    refine x_goto (tgt := 101) hG dX2_settle_132 (by decide) ?_
    refine x_keep [true, true, true, true] rfl ?_
    exact hr101 _ _ _ _ h
set_option maxRecDepth 100000 in
set_option maxHeartbeats 4000000 in
theorem k_X2_settle_87 {G : xG} {post : xMem → Prop} (hG : xOk G cX2_settle RX2 wsX2_settle rm_X2_settle) (hQ : xRetV G post) (h0 : Nat) (hk0 : kd h0 = 2) : ∀ (M : xMem) (p1 : Int32), xlp2 (b_X2_settle_87 post h0) M p1 → xW G M [some (.ref (xa G h0)), some (.int p1), none, none] [] 87 := by
  refine xlp2_W (W := fun M p1 => xW G M [some (.ref (xa G h0)), some (.int p1), none, none] [] 87) (fun r87 hr87 => ?_)
  intro M p1 h
  unfold b_X2_settle_87 at h
  refine x_iload_n hG dX2_settle_87 rfl rfl ?_
  refine x_aload_n hG dX2_settle_88 rfl rfl ?_
  refine x_get_2_3 hG dX2_settle_89 hk0 hin_X2_settle_X2 (List.mem_of_getElem? (i := 2) rfl) ?_
  refine x_icmp_ge (tgt := 141) hG dX2_settle_92 (by decide) (fun hc1 => ?_) (fun hc1 => ?_)
  · have h := h.1 hc1
    exact x_vret hG hQ dX2_settle_141 h
  · have h := h.2 hc1
    refine x_iconst (v := (1 : Int32)) hG dX2_settle_95 (by decide) ?_
    refine x_iload_n hG dX2_settle_96 rfl rfl ?_
    refine x_ishl hG dX2_settle_97 ?_
    refine x_istore_n hG dX2_settle_98 rfl (Nat.le_of_ble_eq_true rfl) rfl ?_
    refine x_iconst (v := (0 : Int32)) hG dX2_settle_99 (by decide) ?_
    refine x_istore_n hG dX2_settle_100 rfl (Nat.le_of_ble_eq_true rfl) rfl ?_
    refine x_keep [true, true, true, true] rfl ?_
    exact k_X2_settle_101 hG hQ h0 hk0 hr87 _ _ _ _ h
set_option maxRecDepth 100000 in
set_option maxHeartbeats 4000000 in
theorem k_X2_settle_45 {G : xG} {post : xMem → Prop} (hG : xOk G cX2_settle RX2 wsX2_settle rm_X2_settle) (hQ : xRetV G post) (h0 : Nat) (hk0 : kd h0 = 2) {r31 : xMem → Int32 → Prop} (hr31 : ∀ (M : xMem) (p1 : Int32), r31 M p1 → xW G M [some (.ref (xa G h0)), some (.int p1), none, none] [] 31) : ∀ (M : xMem) (p1 : Int32) (p2 : Int32) (p3 : Int32), xlp4 (b_X2_settle_45 post h0 r31) M p1 p2 p3 → xW G M [some (.ref (xa G h0)), some (.int p1), some (.int p2), some (.int p3)] [] 45 := by
  refine xlp4_W (W := fun M p1 p2 p3 => xW G M [some (.ref (xa G h0)), some (.int p1), some (.int p2), some (.int p3)] [] 45) (fun r45 hr45 => ?_)
  intro M p1 p2 p3 h
  unfold b_X2_settle_45 at h
  refine x_iload_n hG dX2_settle_45 rfl rfl ?_
  refine x_iload_n hG dX2_settle_46 rfl rfl ?_
  refine x_icmp_ge (tgt := 79) hG dX2_settle_47 (by decide) (fun hc1 => ?_) (fun hc1 => ?_)
  · have h := h.1 hc1
    refine x_iinc (v := _) hG dX2_settle_79 rfl (x_iincE (k := 1) (by decide)) (Nat.le_of_ble_eq_true rfl) rfl ?_
    refine x_goto (tgt := 31) hG dX2_settle_82 (by decide) ?_
    refine x_keep [true, true, false, false] rfl ?_
    exact hr31 _ _ h
  · have h := h.2 hc1
    refine x_aload_n hG dX2_settle_50 rfl rfl ?_
    refine x_get_2_8 hG dX2_settle_51 hk0 hin_X2_settle_X2 (List.mem_of_getElem? (i := 4) rfl) ?_
    refine x_iload_n hG dX2_settle_54 rfl rfl ?_
    refine x_iload_n hG dX2_settle_55 rfl rfl ?_
    refine x_iadd hG dX2_settle_56 ?_
    refine x_aload_n hG dX2_settle_57 rfl rfl ?_
    refine x_get_2_8 hG dX2_settle_58 hk0 hin_X2_settle_X2 (List.mem_of_getElem? (i := 4) rfl) ?_
    refine x_iload_n hG dX2_settle_61 rfl rfl ?_
    obtain ⟨hi2, h⟩ := h
    refine x_iaload hG dX2_settle_62 (kf_2_8 hk0).1 (x_inE (kf_2_8 hk0).2 hi2) ?_
    refine x_aload_n hG dX2_settle_63 rfl rfl ?_
    refine x_get_2_5 hG dX2_settle_64 hk0 hin_X2_settle_X2 (List.mem_of_getElem? (i := 5) rfl) ?_
    refine x_iload_n hG dX2_settle_67 rfl rfl ?_
    obtain ⟨hi3, h⟩ := h
    refine x_aaload11 hG dX2_settle_68 (kf_2_5 hk0).1 (x_inE (kf_2_5 hk0).2 hi3) ?_
    refine x_iconst (v := (3 : Int32)) hG dX2_settle_69 (by decide) ?_
    refine x_iaload hG dX2_settle_70 (ke_2_5 hk0 (vp_lt hi3)).1 (x_inE (ke_2_5 hk0 (vp_lt hi3)).2 (x_inC (by decide))) ?_
    refine x_iadd hG dX2_settle_71 ?_
    obtain ⟨hi4, h⟩ := h
    have h := h _ rfl
    refine x_iastore hG dX2_settle_72 (kf_2_8 hk0).1 (x_inE (kf_2_8 hk0).2 hi4) ?_
    refine x_iinc (v := _) hG dX2_settle_73 rfl (x_iincE (k := 1) (by decide)) (Nat.le_of_ble_eq_true rfl) rfl ?_
    refine x_goto (tgt := 45) hG dX2_settle_76 (by decide) ?_
    refine x_keep [true, true, true, true] rfl ?_
    exact hr45 _ _ _ _ h
set_option maxRecDepth 100000 in
set_option maxHeartbeats 4000000 in
theorem k_X2_settle_31 {G : xG} {post : xMem → Prop} (hG : xOk G cX2_settle RX2 wsX2_settle rm_X2_settle) (hQ : xRetV G post) (h0 : Nat) (hk0 : kd h0 = 2) : ∀ (M : xMem) (p1 : Int32), xlp2 (b_X2_settle_31 post h0) M p1 → xW G M [some (.ref (xa G h0)), some (.int p1), none, none] [] 31 := by
  refine xlp2_W (W := fun M p1 => xW G M [some (.ref (xa G h0)), some (.int p1), none, none] [] 31) (fun r31 hr31 => ?_)
  intro M p1 h
  unfold b_X2_settle_31 at h
  refine x_iload_n hG dX2_settle_31 rfl rfl ?_
  refine x_aload_n hG dX2_settle_32 rfl rfl ?_
  refine x_get_2_2 hG dX2_settle_33 hk0 hin_X2_settle_X2 (List.mem_of_getElem? (i := 3) rfl) ?_
  refine x_icmp_ge (tgt := 85) hG dX2_settle_36 (by decide) (fun hc1 => ?_) (fun hc1 => ?_)
  · have h := h.1 hc1
    refine x_iconst (v := (0 : Int32)) hG dX2_settle_85 (by decide) ?_
    refine x_istore_n hG dX2_settle_86 rfl (Nat.le_of_ble_eq_true rfl) rfl ?_
    refine x_keep [true, true, false, false] rfl ?_
    exact k_X2_settle_87 hG hQ h0 hk0 _ _ h
  · have h := h.2 hc1
    refine x_iconst (v := (1 : Int32)) hG dX2_settle_39 (by decide) ?_
    refine x_iload_n hG dX2_settle_40 rfl rfl ?_
    refine x_ishl hG dX2_settle_41 ?_
    refine x_istore_n hG dX2_settle_42 rfl (Nat.le_of_ble_eq_true rfl) rfl ?_
    refine x_iconst (v := (0 : Int32)) hG dX2_settle_43 (by decide) ?_
    refine x_istore_n hG dX2_settle_44 rfl (Nat.le_of_ble_eq_true rfl) rfl ?_
    refine x_keep [true, true, true, true] rfl ?_
    exact k_X2_settle_45 hG hQ h0 hk0 hr31 _ _ _ _ h
set_option maxRecDepth 100000 in
set_option maxHeartbeats 4000000 in
theorem k_X2_settle_10 {G : xG} {post : xMem → Prop} (hG : xOk G cX2_settle RX2 wsX2_settle rm_X2_settle) (hQ : xRetV G post) (h0 : Nat) (hk0 : kd h0 = 2) : ∀ (M : xMem) (p1 : Int32), xlp2 (b_X2_settle_10 post h0) M p1 → xW G M [some (.ref (xa G h0)), some (.int p1), none, none] [] 10 := by
  refine xlp2_W (W := fun M p1 => xW G M [some (.ref (xa G h0)), some (.int p1), none, none] [] 10) (fun r10 hr10 => ?_)
  intro M p1 h
  unfold b_X2_settle_10 at h
  refine x_iload_n hG dX2_settle_10 rfl rfl ?_
  refine x_aload_n hG dX2_settle_11 rfl rfl ?_
  refine x_get_2_3 hG dX2_settle_12 hk0 hin_X2_settle_X2 (List.mem_of_getElem? (i := 2) rfl) ?_
  refine x_icmp_ge (tgt := 29) hG dX2_settle_15 (by decide) (fun hc1 => ?_) (fun hc1 => ?_)
  · have h := h.1 hc1
    refine x_iconst (v := (0 : Int32)) hG dX2_settle_29 (by decide) ?_
    refine x_istore_n hG dX2_settle_30 rfl (Nat.le_of_ble_eq_true rfl) rfl ?_
    refine x_keep [true, true, false, false] rfl ?_
    exact k_X2_settle_31 hG hQ h0 hk0 _ _ h
  · have h := h.2 hc1
    refine x_aload_n hG dX2_settle_18 rfl rfl ?_
    refine x_iload_n hG dX2_settle_19 rfl rfl ?_
    refine x_cVV1 hG dX2_settle_20 (fun ha => c_X2_settleHours ha h) gX2_settle_X2_settleHours rfl ⟨rfl, rfl⟩ hy_X2_settleHours ⟨Nat.le_of_ble_eq_true rfl, Nat.le_of_ble_eq_true rfl⟩ (kd_lt hk0 (by decide)) (fun _ => xc_2 hk0) rfl (Nat.le_of_ble_eq_true rfl) (fun M3 h => ?_)
    refine x_iinc (v := _) hG dX2_settle_23 rfl (x_iincE (k := 1) (by decide)) (Nat.le_of_ble_eq_true rfl) rfl ?_
    refine x_goto (tgt := 10) hG dX2_settle_26 (by decide) ?_
    refine x_keep [true, true, false, false] rfl ?_
    exact hr10 _ _ h
set_option maxRecDepth 100000 in
set_option maxHeartbeats 4000000 in
theorem c_X2_settle {l : Launch} {a : Nat → Nat} {M : xMem} {h0 : Nat} {post : xMem → Prop} (ha : xInj a) (h : w_X2_settle M h0 post) : ∀ D cs sz, xMetV l yX2_settle wsX2_settle rm_X2_settle D a cs sz M [.ref (a h0)] post := by
  intro D cs sz
  unfold w_X2_settle at h
  obtain ⟨hk0, h⟩ := h
  refine x_metV [some (.ref (a h0)), none, none, none] (by decide) rfl rfl (Nat.le_of_ble_eq_true rfl) rfl rfl ha D cs sz rfl (fun G e1 e2 hG hQ => ?_)
  subst e1
  subst e2
  refine x_aload_n hG dX2_settle_0 rfl rfl ?_
  refine x_get_2_7 hG dX2_settle_1 hk0 hin_X2_settle_X2 (List.mem_of_getElem? (i := 1) rfl) ?_
  refine x_iconst (v := (0 : Int32)) hG dX2_settle_4 (by decide) ?_
  refine x_cSV2 hG dX2_settle_5 (fun ha => c_J7_fill_53178 ha h) gX2_settle_J7_fill_53178 rfl ⟨rfl, rfl⟩ hy_J7_fill_53178 ⟨Nat.le_of_ble_eq_true rfl, Nat.le_of_ble_eq_true rfl⟩ (Nat.le_of_ble_eq_true rfl) (fun M2 h => ?_)
  refine x_iconst (v := (0 : Int32)) hG dX2_settle_8 (by decide) ?_
  refine x_istore_n hG dX2_settle_9 rfl (Nat.le_of_ble_eq_true rfl) rfl ?_
  refine x_keep [true, true, false, false] rfl ?_
  exact k_X2_settle_10 hG hQ h0 hk0 _ _ h
abbrev rm_X2_sellers : Room := { frames := 0, cells := 0, slots := 0, locals := 0 }
theorem hy_X2_sellers : yX2_sellers.cls = RX2 ∧ yX2_sellers.cls ≠ "java/lang/invoke/MethodHandle" ∧ yX2_sellers.cls ≠ "java/lang/invoke/VarHandle" ∧ (parseMethodDescriptor yX2_sellers.desc).map (fun d => d.parameters.length) = some 2 := by decide +kernel
theorem hin_X2_sellers_X2 : ∀ w ∈ wsX20, w ∈ wsX2_sellers := fun _ h => List.mem_cons_of_mem _ (List.mem_append_right _ h)
set_option maxRecDepth 100000 in
set_option maxHeartbeats 4000000 in
theorem k_X2_sellers_44 {G : xG} {post : Int32 → xMem → Prop} (hG : xOk G cX2_sellers RX2 wsX2_sellers rm_X2_sellers) (hQ : xRetI G post .int) (h0 : Nat) (hk0 : kd h0 = 2) {r5 : xMem → Int32 → Int32 → Int32 → Int32 → Prop} (hr5 : ∀ (M : xMem) (p1 : Int32) (p2 : Int32) (p3 : Int32) (p4 : Int32), r5 M p1 p2 p3 p4 → xW G M [some (.ref (xa G h0)), some (.int p1), some (.int p2), some (.int p3), some (.int p4)] [] 5) : ∀ (M : xMem) (p1 : Int32) (p2 : Int32) (p3 : Int32) (p4 : Int32), b_X2_sellers_44 post h0 r5 M p1 p2 p3 p4 → xW G M [some (.ref (xa G h0)), some (.int p1), some (.int p2), some (.int p3), some (.int p4)] [] 44 := by
  intro M p1 p2 p3 p4 h
  unfold b_X2_sellers_44 at h
  refine x_iinc (v := _) hG dX2_sellers_44 rfl (x_iincE (k := 1) (by decide)) (Nat.le_of_ble_eq_true rfl) rfl ?_
  refine x_goto (tgt := 5) hG dX2_sellers_47 (by decide) ?_
  refine x_keep [true, true, true, true, true] rfl ?_
  exact hr5 _ _ _ _ _ h
set_option maxRecDepth 100000 in
set_option maxHeartbeats 4000000 in
theorem k_X2_sellers_5 {G : xG} {post : Int32 → xMem → Prop} (hG : xOk G cX2_sellers RX2 wsX2_sellers rm_X2_sellers) (hQ : xRetI G post .int) (h0 : Nat) (hk0 : kd h0 = 2) : ∀ (M : xMem) (p1 : Int32) (p2 : Int32) (p3 : Int32) (p4 : Int32), xlp5 (b_X2_sellers_5 post h0) M p1 p2 p3 p4 → xW G M [some (.ref (xa G h0)), some (.int p1), some (.int p2), some (.int p3), some (.int p4)] [] 5 := by
  refine xlp5_W (W := fun M p1 p2 p3 p4 => xW G M [some (.ref (xa G h0)), some (.int p1), some (.int p2), some (.int p3), some (.int p4)] [] 5) (fun r5 hr5 => ?_)
  intro M p1 p2 p3 p4 h
  unfold b_X2_sellers_5 at h
  refine x_iload hG dX2_sellers_5 rfl ?_
  refine x_aload_n hG dX2_sellers_7 rfl rfl ?_
  refine x_get_2_3 hG dX2_sellers_8 hk0 hin_X2_sellers_X2 (List.mem_of_getElem? (i := 1) rfl) ?_
  refine x_icmp_ge (tgt := 50) hG dX2_sellers_11 (by decide) (fun hc1 => ?_) (fun hc1 => ?_)
  · have h := h.1 hc1
    refine x_iload_n hG dX2_sellers_50 rfl rfl ?_
    exact x_iret hG hQ dX2_sellers_51 rfl h
  · have h := h.2 hc1
    refine x_aload_n hG dX2_sellers_14 rfl rfl ?_
    refine x_get_2_7 hG dX2_sellers_15 hk0 hin_X2_sellers_X2 (List.mem_of_getElem? (i := 2) rfl) ?_
    refine x_iload_n hG dX2_sellers_18 rfl rfl ?_
    obtain ⟨hi2, h⟩ := h
    refine x_iaload hG dX2_sellers_19 (kf_2_7 hk0).1 (x_inE (kf_2_7 hk0).2 hi2) ?_
    refine x_iload hG dX2_sellers_20 rfl ?_
    refine x_ishr hG dX2_sellers_22 ?_
    refine x_iconst (v := (1 : Int32)) hG dX2_sellers_23 (by decide) ?_
    refine x_iand hG dX2_sellers_24 ?_
    refine x_if_eq (tgt := 44) hG dX2_sellers_25 (by decide) (fun hc3 => ?_) (fun hc3 => ?_)
    · have h := h.1 hc3
      refine x_keep [true, true, true, true, true] rfl ?_
      exact k_X2_sellers_44 hG hQ h0 hk0 hr5 _ _ _ _ _ h
    · have h := h.2 hc3
      refine x_aload_n hG dX2_sellers_28 rfl rfl ?_
      refine x_get_2_6 hG dX2_sellers_29 hk0 hin_X2_sellers_X2 (List.mem_of_getElem? (i := 3) rfl) ?_
      refine x_iload hG dX2_sellers_32 rfl ?_
      obtain ⟨hi4, h⟩ := h
      refine x_aaload11 hG dX2_sellers_34 (kf_2_6 hk0).1 (x_inE (kf_2_6 hk0).2 hi4) ?_
      refine x_iconst (v := (4 : Int32)) hG dX2_sellers_35 (by decide) ?_
      refine x_iaload hG dX2_sellers_36 (ke_2_6 hk0 (vp_lt hi4)).1 (x_inE (ke_2_6 hk0 (vp_lt hi4)).2 (x_inC (by decide))) ?_
      refine x_iload_n hG dX2_sellers_37 rfl rfl ?_
      refine x_icmp_gt (tgt := 44) hG dX2_sellers_38 (by decide) (fun hc5 => ?_) (fun hc5 => ?_)
      · have h := h.1 hc5
        refine x_keep [true, true, true, true, true] rfl ?_
        exact k_X2_sellers_44 hG hQ h0 hk0 hr5 _ _ _ _ _ h
      · have h := h.2 hc5
        refine x_iinc (v := _) hG dX2_sellers_41 rfl (x_iincE (k := 1) (by decide)) (Nat.le_of_ble_eq_true rfl) rfl ?_
        refine x_keep [true, true, true, true, true] rfl ?_
        exact k_X2_sellers_44 hG hQ h0 hk0 hr5 _ _ _ _ _ h
set_option maxRecDepth 100000 in
set_option maxHeartbeats 4000000 in
theorem c_X2_sellers {l : Launch} {a : Nat → Nat} {M : xMem} {h0 : Nat} {p1 : Int32} {p2 : Int32} {post : Int32 → xMem → Prop} (ha : xInj a) (h : w_X2_sellers M h0 p1 p2 post) : ∀ D cs sz, xMetI l yX2_sellers wsX2_sellers rm_X2_sellers D a cs sz M [.ref (a h0), .int p1, .int p2] post := by
  intro D cs sz
  unfold w_X2_sellers at h
  obtain ⟨hk0, h⟩ := h
  refine x_metI (ty := .int) [some (.ref (a h0)), some (.int p1), some (.int p2), none, none] (by decide) rfl rfl (Nat.le_of_ble_eq_true rfl) rfl rfl ha D cs sz rfl (fun G e1 e2 hG hQ => ?_)
  subst e1
  subst e2
  refine x_iconst (v := (0 : Int32)) hG dX2_sellers_0 (by decide) ?_
  refine x_istore_n hG dX2_sellers_1 rfl (Nat.le_of_ble_eq_true rfl) rfl ?_
  refine x_iconst (v := (0 : Int32)) hG dX2_sellers_2 (by decide) ?_
  refine x_istore hG dX2_sellers_3 (Nat.le_of_ble_eq_true rfl) rfl ?_
  refine x_keep [true, true, true, true, true] rfl ?_
  exact k_X2_sellers_5 hG hQ h0 hk0 _ _ _ _ _ h
abbrev rm_X2_buyers : Room := { frames := 0, cells := 0, slots := 0, locals := 0 }
theorem hy_X2_buyers : yX2_buyers.cls = RX2 ∧ yX2_buyers.cls ≠ "java/lang/invoke/MethodHandle" ∧ yX2_buyers.cls ≠ "java/lang/invoke/VarHandle" ∧ (parseMethodDescriptor yX2_buyers.desc).map (fun d => d.parameters.length) = some 1 := by decide +kernel
theorem hin_X2_buyers_X2 : ∀ w ∈ wsX20, w ∈ wsX2_buyers := fun _ h => List.mem_cons_of_mem _ (List.mem_append_right _ h)
set_option maxRecDepth 100000 in
set_option maxHeartbeats 4000000 in
theorem k_X2_buyers_27 {G : xG} {post : Int32 → xMem → Prop} (hG : xOk G cX2_buyers RX2 wsX2_buyers rm_X2_buyers) (hQ : xRetI G post .int) (h0 : Nat) (hk0 : kd h0 = 2) {r4 : xMem → Int32 → Int32 → Int32 → Prop} (hr4 : ∀ (M : xMem) (p1 : Int32) (p2 : Int32) (p3 : Int32), r4 M p1 p2 p3 → xW G M [some (.ref (xa G h0)), some (.int p1), some (.int p2), some (.int p3)] [] 4) : ∀ (M : xMem) (p1 : Int32) (p2 : Int32) (p3 : Int32), b_X2_buyers_27 post h0 r4 M p1 p2 p3 → xW G M [some (.ref (xa G h0)), some (.int p1), some (.int p2), some (.int p3)] [] 27 := by
  intro M p1 p2 p3 h
  unfold b_X2_buyers_27 at h
  refine x_iinc (v := _) hG dX2_buyers_27 rfl (x_iincE (k := 1) (by decide)) (Nat.le_of_ble_eq_true rfl) rfl ?_
  refine x_goto (tgt := 4) hG dX2_buyers_30 (by decide) ?_
  refine x_keep [true, true, true, true] rfl ?_
  exact hr4 _ _ _ _ h
set_option maxRecDepth 100000 in
set_option maxHeartbeats 4000000 in
theorem k_X2_buyers_4 {G : xG} {post : Int32 → xMem → Prop} (hG : xOk G cX2_buyers RX2 wsX2_buyers rm_X2_buyers) (hQ : xRetI G post .int) (h0 : Nat) (hk0 : kd h0 = 2) : ∀ (M : xMem) (p1 : Int32) (p2 : Int32) (p3 : Int32), xlp4 (b_X2_buyers_4 post h0) M p1 p2 p3 → xW G M [some (.ref (xa G h0)), some (.int p1), some (.int p2), some (.int p3)] [] 4 := by
  refine xlp4_W (W := fun M p1 p2 p3 => xW G M [some (.ref (xa G h0)), some (.int p1), some (.int p2), some (.int p3)] [] 4) (fun r4 hr4 => ?_)
  intro M p1 p2 p3 h
  unfold b_X2_buyers_4 at h
  refine x_iload_n hG dX2_buyers_4 rfl rfl ?_
  refine x_aload_n hG dX2_buyers_5 rfl rfl ?_
  refine x_get_2_2 hG dX2_buyers_6 hk0 hin_X2_buyers_X2 (List.mem_of_getElem? (i := 1) rfl) ?_
  refine x_icmp_ge (tgt := 33) hG dX2_buyers_9 (by decide) (fun hc1 => ?_) (fun hc1 => ?_)
  · have h := h.1 hc1
    refine x_iload_n hG dX2_buyers_33 rfl rfl ?_
    exact x_iret hG hQ dX2_buyers_34 rfl h
  · have h := h.2 hc1
    refine x_aload_n hG dX2_buyers_12 rfl rfl ?_
    refine x_get_2_5 hG dX2_buyers_13 hk0 hin_X2_buyers_X2 (List.mem_of_getElem? (i := 2) rfl) ?_
    refine x_iload_n hG dX2_buyers_16 rfl rfl ?_
    obtain ⟨hi2, h⟩ := h
    refine x_aaload11 hG dX2_buyers_17 (kf_2_5 hk0).1 (x_inE (kf_2_5 hk0).2 hi2) ?_
    refine x_iconst (v := (3 : Int32)) hG dX2_buyers_18 (by decide) ?_
    refine x_iaload hG dX2_buyers_19 (ke_2_5 hk0 (vp_lt hi2)).1 (x_inE (ke_2_5 hk0 (vp_lt hi2)).2 (x_inC (by decide))) ?_
    refine x_iload_n hG dX2_buyers_20 rfl rfl ?_
    refine x_icmp_lt (tgt := 27) hG dX2_buyers_21 (by decide) (fun hc3 => ?_) (fun hc3 => ?_)
    · have h := h.1 hc3
      refine x_keep [true, true, true, true] rfl ?_
      exact k_X2_buyers_27 hG hQ h0 hk0 hr4 _ _ _ _ h
    · have h := h.2 hc3
      refine x_iinc (v := _) hG dX2_buyers_24 rfl (x_iincE (k := 1) (by decide)) (Nat.le_of_ble_eq_true rfl) rfl ?_
      refine x_keep [true, true, true, true] rfl ?_
      exact k_X2_buyers_27 hG hQ h0 hk0 hr4 _ _ _ _ h
set_option maxRecDepth 100000 in
set_option maxHeartbeats 4000000 in
theorem c_X2_buyers {l : Launch} {a : Nat → Nat} {M : xMem} {h0 : Nat} {p1 : Int32} {post : Int32 → xMem → Prop} (ha : xInj a) (h : w_X2_buyers M h0 p1 post) : ∀ D cs sz, xMetI l yX2_buyers wsX2_buyers rm_X2_buyers D a cs sz M [.ref (a h0), .int p1] post := by
  intro D cs sz
  unfold w_X2_buyers at h
  obtain ⟨hk0, h⟩ := h
  refine x_metI (ty := .int) [some (.ref (a h0)), some (.int p1), none, none] (by decide) rfl rfl (Nat.le_of_ble_eq_true rfl) rfl rfl ha D cs sz rfl (fun G e1 e2 hG hQ => ?_)
  subst e1
  subst e2
  refine x_iconst (v := (0 : Int32)) hG dX2_buyers_0 (by decide) ?_
  refine x_istore_n hG dX2_buyers_1 rfl (Nat.le_of_ble_eq_true rfl) rfl ?_
  refine x_iconst (v := (0 : Int32)) hG dX2_buyers_2 (by decide) ?_
  refine x_istore_n hG dX2_buyers_3 rfl (Nat.le_of_ble_eq_true rfl) rfl ?_
  refine x_keep [true, true, true, true] rfl ?_
  exact k_X2_buyers_4 hG hQ h0 hk0 _ _ _ _ h
abbrev rm_X4_addWorker : Room := { frames := 0, cells := 0, slots := 0, locals := 0 }
theorem hy_X4_addWorker : yX4_addWorker.cls = RX4 ∧ yX4_addWorker.cls ≠ "java/lang/invoke/MethodHandle" ∧ yX4_addWorker.cls ≠ "java/lang/invoke/VarHandle" ∧ (parseMethodDescriptor yX4_addWorker.desc).map (fun d => d.parameters.length) = some 4 := by decide +kernel
theorem hin_X4_addWorker_X4 : ∀ w ∈ wsX40, w ∈ wsX4_addWorker := fun _ h => List.mem_cons_of_mem _ (List.mem_append_right _ h)
set_option maxRecDepth 100000 in
set_option maxHeartbeats 4000000 in
theorem k_X4_addWorker_54 {G : xG} {post : xMem → Prop} (hG : xOk G cX4_addWorker RX4 wsX4_addWorker rm_X4_addWorker) (hQ : xRetV G post) {r3 : xMem → Int32 → Int32 → Int32 → Int32 → Int32 → Prop} (hr3 : ∀ (M : xMem) (p1 : Int32) (p2 : Int32) (p3 : Int32) (p4 : Int32) (p5 : Int32), r3 M p1 p2 p3 p4 p5 → xW G M [some (.ref (xa G 14)), some (.int p1), some (.int p2), some (.int p3), some (.int p4), some (.int p5)] [] 3) : ∀ (M : xMem) (p1 : Int32) (p2 : Int32) (p3 : Int32) (p4 : Int32) (p5 : Int32), b_X4_addWorker_54 post r3 M p1 p2 p3 p4 p5 → xW G M [some (.ref (xa G 14)), some (.int p1), some (.int p2), some (.int p3), some (.int p4), some (.int p5)] [] 54 := by
  intro M p1 p2 p3 p4 p5 h
  unfold b_X4_addWorker_54 at h
  refine x_iinc (v := _) hG dX4_addWorker_54 rfl (x_iincE (k := 1) (by decide)) (Nat.le_of_ble_eq_true rfl) rfl ?_
  refine x_goto (tgt := 3) hG dX4_addWorker_57 (by decide) ?_
  refine x_keep [true, true, true, true, true, true] rfl ?_
  exact hr3 _ _ _ _ _ _ h
set_option maxRecDepth 100000 in
set_option maxHeartbeats 4000000 in
theorem k_X4_addWorker_3 {G : xG} {post : xMem → Prop} (hG : xOk G cX4_addWorker RX4 wsX4_addWorker rm_X4_addWorker) (hQ : xRetV G post) : ∀ (M : xMem) (p1 : Int32) (p2 : Int32) (p3 : Int32) (p4 : Int32) (p5 : Int32), xlp6 (b_X4_addWorker_3 post) M p1 p2 p3 p4 p5 → xW G M [some (.ref (xa G 14)), some (.int p1), some (.int p2), some (.int p3), some (.int p4), some (.int p5)] [] 3 := by
  refine xlp6_W (W := fun M p1 p2 p3 p4 p5 => xW G M [some (.ref (xa G 14)), some (.int p1), some (.int p2), some (.int p3), some (.int p4), some (.int p5)] [] 3) (fun r3 hr3 => ?_)
  intro M p1 p2 p3 p4 p5 h
  unfold b_X4_addWorker_3 at h
  refine x_iload hG dX4_addWorker_3 rfl ?_
  refine x_iload_n hG dX4_addWorker_5 rfl rfl ?_
  refine x_icmp_ge (tgt := 60) hG dX4_addWorker_6 (by decide) (fun hc1 => ?_) (fun hc1 => ?_)
  · have h := h.1 hc1
    exact x_vret hG hQ dX4_addWorker_60 h
  · have h := h.2 hc1
    refine x_aload_n hG dX4_addWorker_9 rfl rfl ?_
    refine x_get_4_1 hG dX4_addWorker_10 (rfl : kd 14 = 4) hin_X4_addWorker_X4 (List.mem_of_getElem? (i := 1) rfl) ?_
    refine x_iload_n hG dX4_addWorker_13 rfl rfl ?_
    refine x_iload hG dX4_addWorker_14 rfl ?_
    refine x_iadd hG dX4_addWorker_16 ?_
    refine x_aload_n hG dX4_addWorker_17 rfl rfl ?_
    refine x_get_4_1 hG dX4_addWorker_18 (rfl : kd 14 = 4) hin_X4_addWorker_X4 (List.mem_of_getElem? (i := 1) rfl) ?_
    refine x_iload hG dX4_addWorker_21 rfl ?_
    obtain ⟨hi2, h⟩ := h
    refine x_iaload hG dX4_addWorker_23 (kf_4_1 (rfl : kd 14 = 4)).1 (x_inE (kf_4_1 (rfl : kd 14 = 4)).2 hi2) ?_
    refine x_iload_n hG dX4_addWorker_24 rfl rfl ?_
    refine x_iadd hG dX4_addWorker_25 ?_
    obtain ⟨hi3, h⟩ := h
    have h := h _ rfl
    refine x_iastore hG dX4_addWorker_26 (kf_4_1 (rfl : kd 14 = 4)).1 (x_inE (kf_4_1 (rfl : kd 14 = 4)).2 hi3) ?_
    refine x_aload_n hG dX4_addWorker_27 rfl rfl ?_
    refine x_get_4_1 hG dX4_addWorker_28 (rfl : kd 14 = 4) hin_X4_addWorker_X4 (List.mem_of_getElem? (i := 1) rfl) ?_
    refine x_iload_n hG dX4_addWorker_31 rfl rfl ?_
    refine x_iload hG dX4_addWorker_32 rfl ?_
    refine x_iadd hG dX4_addWorker_34 ?_
    refine x_iaload hG dX4_addWorker_35 (kf_4_1 (rfl : kd 14 = 4)).1 (x_inE (kf_4_1 (rfl : kd 14 = 4)).2 hi3) ?_
    refine x_iload_n hG dX4_addWorker_36 rfl rfl ?_
    refine x_icmp_le (tgt := 54) hG dX4_addWorker_37 (by decide) (fun hc5 => ?_) (fun hc5 => ?_)
    · have h := h.1 hc5
      refine x_keep [true, true, true, true, true, true] rfl ?_
      exact k_X4_addWorker_54 hG hQ hr3 _ _ _ _ _ _ h
    · have h := h.2 hc5
      refine x_aload_n hG dX4_addWorker_40 rfl rfl ?_
      refine x_get_4_0 hG dX4_addWorker_41 (rfl : kd 14 = 4) hin_X4_addWorker_X4 (List.mem_of_getElem? (i := 2) rfl) ?_
      refine x_iload_n hG dX4_addWorker_44 rfl rfl ?_
      refine x_iload hG dX4_addWorker_45 rfl ?_
      refine x_iadd hG dX4_addWorker_47 ?_
      refine x_dup2 hG dX4_addWorker_48 rfl rfl ?_
      obtain ⟨hi6, h⟩ := h
      refine x_iaload hG dX4_addWorker_49 (kf_4_0 (rfl : kd 14 = 4)).1 (x_inE (kf_4_0 (rfl : kd 14 = 4)).2 hi6) ?_
      refine x_iload hG dX4_addWorker_50 rfl ?_
      refine x_ior hG dX4_addWorker_52 ?_
      have h := h _ rfl
      refine x_iastore hG dX4_addWorker_53 (kf_4_0 (rfl : kd 14 = 4)).1 (x_inE (kf_4_0 (rfl : kd 14 = 4)).2 hi6) ?_
      refine x_keep [true, true, true, true, true, true] rfl ?_
      exact k_X4_addWorker_54 hG hQ hr3 _ _ _ _ _ _ h
set_option maxRecDepth 100000 in
set_option maxHeartbeats 4000000 in
theorem c_X4_addWorker {l : Launch} {a : Nat → Nat} {M : xMem} {p1 : Int32} {p2 : Int32} {p3 : Int32} {p4 : Int32} {post : xMem → Prop} (ha : xInj a) (h : w_X4_addWorker M p1 p2 p3 p4 post) : ∀ D cs sz, xMetV l yX4_addWorker wsX4_addWorker rm_X4_addWorker D a cs sz M [.ref (a 14), .int p1, .int p2, .int p3, .int p4] post := by
  intro D cs sz
  unfold w_X4_addWorker at h
  refine x_metV [some (.ref (a 14)), some (.int p1), some (.int p2), some (.int p3), some (.int p4), none] (by decide) rfl rfl (Nat.le_of_ble_eq_true rfl) rfl rfl ha D cs sz rfl (fun G e1 e2 hG hQ => ?_)
  subst e1
  subst e2
  refine x_iconst (v := (0 : Int32)) hG dX4_addWorker_0 (by decide) ?_
  refine x_istore hG dX4_addWorker_1 (Nat.le_of_ble_eq_true rfl) rfl ?_
  refine x_keep [true, true, true, true, true, true] rfl ?_
  exact k_X4_addWorker_3 hG hQ _ _ _ _ _ _ h
abbrev rm_X4_weigh : Room := { frames := 1, cells := 0, slots := 0, locals := 25 }
theorem hy_X4_weigh : yX4_weigh.cls = RX4 ∧ yX4_weigh.cls ≠ "java/lang/invoke/MethodHandle" ∧ yX4_weigh.cls ≠ "java/lang/invoke/VarHandle" ∧ (parseMethodDescriptor yX4_weigh.desc).map (fun d => d.parameters.length) = some 2 := by decide +kernel
theorem hin_X4_weigh_X2 : ∀ w ∈ wsX20, w ∈ wsX4_weigh := fun _ h => List.mem_cons_of_mem _ (List.mem_append_right _ h)
theorem hin_X4_weigh_X4 : ∀ w ∈ wsX40, w ∈ wsX4_weigh := fun _ h => List.mem_cons_of_mem _ (List.mem_append_left _ (List.mem_append_right _ h))
set_option maxRecDepth 100000 in
set_option maxHeartbeats 4000000 in
theorem k_X4_weigh_79 {G : xG} {post : xMem → Prop} (hG : xOk G cX4_weigh RX4 wsX4_weigh rm_X4_weigh) (hQ : xRetV G post) {r10 : xMem → Nat → Nat → Int32 → Prop} (hr10 : ∀ (M : xMem) (p1 : Nat) (p2 : Nat) (p3 : Int32), r10 M p1 p2 p3 → xW G M [some (.ref (xa G 14)), some (.ref (xa G p1)), some (.ref (xa G p2)), some (.int p3), none, none, none, none] [] 10) {r29 : xMem → Nat → Nat → Int32 → Nat → Int32 → Prop} (hr29 : ∀ (M : xMem) (p1 : Nat) (p2 : Nat) (p3 : Int32) (p4 : Nat) (p5 : Int32), r29 M p1 p2 p3 p4 p5 → xW G M [some (.ref (xa G 14)), some (.ref (xa G p1)), some (.ref (xa G p2)), some (.int p3), some (.ref (xa G p4)), some (.int p5), none, none] [] 29) : ∀ (M : xMem) (p1 : Nat) (p2 : Nat) (p3 : Int32) (p4 : Nat) (p5 : Int32) (s0 : Int32), b_X4_weigh_79 post r10 r29 M p1 p2 p3 p4 p5 s0 → xW G M [some (.ref (xa G 14)), some (.ref (xa G p1)), some (.ref (xa G p2)), some (.int p3), some (.ref (xa G p4)), some (.int p5), none, none] [.int s0] 79 := by
  intro M p1 p2 p3 p4 p5 s0 h
  unfold b_X4_weigh_79 at h
  refine x_istore hG dX4_weigh_79 (Nat.le_of_ble_eq_true rfl) rfl ?_
  refine x_aload_n hG dX4_weigh_81 rfl rfl ?_
  refine x_iconst (v := (1 : Int32)) hG dX4_weigh_82 (by decide) ?_
  refine x_iload hG dX4_weigh_83 rfl ?_
  refine x_ishl hG dX4_weigh_85 ?_
  refine x_iload hG dX4_weigh_86 rfl ?_
  refine x_aload hG dX4_weigh_88 rfl ?_
  refine x_iconst (v := (3 : Int32)) hG dX4_weigh_90 (by decide) ?_
  obtain ⟨hk1, h⟩ := h
  obtain ⟨hi2, h⟩ := h
  refine x_iaload hG dX4_weigh_91 hk1 hi2 ?_
  refine x_iconst (v := (1 : Int32)) hG dX4_weigh_92 (by decide) ?_
  refine x_iload_n hG dX4_weigh_93 rfl rfl ?_
  refine x_ishl hG dX4_weigh_94 ?_
  refine x_cVV4 hG dX4_weigh_95 (fun ha => c_X4_addWorker ha h) gX4_weigh_X4_addWorker rfl ⟨rfl, rfl⟩ hy_X4_addWorker ⟨Nat.le_of_ble_eq_true rfl, Nat.le_of_ble_eq_true rfl⟩ (kd_lt (rfl : kd 14 = 4) (by decide)) (fun _ => xc_4 (rfl : kd 14 = 4)) rfl (Nat.le_of_ble_eq_true rfl) (fun M4 h => ?_)
  refine x_iinc (v := _) hG dX4_weigh_98 rfl (x_iincE (k := 1) (by decide)) (Nat.le_of_ble_eq_true rfl) rfl ?_
  refine x_goto (tgt := 29) hG dX4_weigh_101 (by decide) ?_
  refine x_keep [true, true, true, true, true, true, false, false] rfl ?_
  exact hr29 _ _ _ _ _ _ h
set_option maxRecDepth 100000 in
set_option maxHeartbeats 4000000 in
theorem k_X4_weigh_59 {G : xG} {post : xMem → Prop} (hG : xOk G cX4_weigh RX4 wsX4_weigh rm_X4_weigh) (hQ : xRetV G post) {r10 : xMem → Nat → Nat → Int32 → Prop} (hr10 : ∀ (M : xMem) (p1 : Nat) (p2 : Nat) (p3 : Int32), r10 M p1 p2 p3 → xW G M [some (.ref (xa G 14)), some (.ref (xa G p1)), some (.ref (xa G p2)), some (.int p3), none, none, none, none] [] 10) {r29 : xMem → Nat → Nat → Int32 → Nat → Int32 → Prop} (hr29 : ∀ (M : xMem) (p1 : Nat) (p2 : Nat) (p3 : Int32) (p4 : Nat) (p5 : Int32), r29 M p1 p2 p3 p4 p5 → xW G M [some (.ref (xa G 14)), some (.ref (xa G p1)), some (.ref (xa G p2)), some (.int p3), some (.ref (xa G p4)), some (.int p5), none, none] [] 29) : ∀ (M : xMem) (p1 : Nat) (p2 : Nat) (p3 : Int32) (p4 : Nat) (p5 : Int32) (s0 : Int32), b_X4_weigh_59 post r10 r29 M p1 p2 p3 p4 p5 s0 → xW G M [some (.ref (xa G 14)), some (.ref (xa G p1)), some (.ref (xa G p2)), some (.int p3), some (.ref (xa G p4)), some (.int p5), none, none] [.int s0] 59 := by
  intro M p1 p2 p3 p4 p5 s0 h
  unfold b_X4_weigh_59 at h
  refine x_istore hG dX4_weigh_59 (Nat.le_of_ble_eq_true rfl) rfl ?_
  refine x_iload hG dX4_weigh_61 rfl ?_
  refine x_if_eq (tgt := 70) hG dX4_weigh_63 (by decide) (fun hc1 => ?_) (fun hc1 => ?_)
  · have h := h.1 hc1
    refine x_aload_n hG dX4_weigh_70 rfl rfl ?_
    refine x_iload hG dX4_weigh_71 rfl ?_
    obtain ⟨hk2, h⟩ := h
    obtain ⟨hi3, h⟩ := h
    refine x_aaload11 hG dX4_weigh_73 hk2 hi3 ?_
    refine x_aload hG dX4_weigh_74 rfl ?_
    refine x_iconst (v := (0 : Int32)) hG dX4_weigh_76 (by decide) ?_
    obtain ⟨hk4, h⟩ := h
    obtain ⟨hi5, h⟩ := h
    refine x_iaload hG dX4_weigh_77 hk4 hi5 ?_
    obtain ⟨hi6, h⟩ := h
    refine x_iaload hG dX4_weigh_78 (ke_11 hk2 (vp_lt hi3)) hi6 ?_
    refine x_keep [true, true, true, true, true, true, false, false] rfl ?_
    exact k_X4_weigh_79 hG hQ hr10 hr29 _ _ _ _ _ _ _ h
  · have h := h.2 hc1
    refine x_iconst (v := (0 : Int32)) hG dX4_weigh_66 (by decide) ?_
    refine x_goto (tgt := 79) hG dX4_weigh_67 (by decide) ?_
    refine x_keep [true, true, true, true, true, true, false, false] rfl ?_
    exact k_X4_weigh_79 hG hQ hr10 hr29 _ _ _ _ _ _ _ h
set_option maxRecDepth 100000 in
set_option maxHeartbeats 4000000 in
theorem k_X4_weigh_29 {G : xG} {post : xMem → Prop} (hG : xOk G cX4_weigh RX4 wsX4_weigh rm_X4_weigh) (hQ : xRetV G post) {r10 : xMem → Nat → Nat → Int32 → Prop} (hr10 : ∀ (M : xMem) (p1 : Nat) (p2 : Nat) (p3 : Int32), r10 M p1 p2 p3 → xW G M [some (.ref (xa G 14)), some (.ref (xa G p1)), some (.ref (xa G p2)), some (.int p3), none, none, none, none] [] 10) : ∀ (M : xMem) (p1 : Nat) (p2 : Nat) (p3 : Int32) (p4 : Nat) (p5 : Int32), xlp6 (b_X4_weigh_29 post r10) M p1 p2 p3 p4 p5 → xW G M [some (.ref (xa G 14)), some (.ref (xa G p1)), some (.ref (xa G p2)), some (.int p3), some (.ref (xa G p4)), some (.int p5), none, none] [] 29 := by
  refine xlp6_W (W := fun M p1 p2 p3 p4 p5 => xW G M [some (.ref (xa G 14)), some (.ref (xa G p1)), some (.ref (xa G p2)), some (.int p3), some (.ref (xa G p4)), some (.int p5), none, none] [] 29) (fun r29 hr29 => ?_)
  intro M p1 p2 p3 p4 p5 h
  unfold b_X4_weigh_29 at h
  refine x_iload hG dX4_weigh_29 rfl ?_
  refine x_aload_n hG dX4_weigh_31 rfl rfl ?_
  obtain ⟨hk1, h⟩ := h
  refine x_get_2_2 hG dX4_weigh_32 hk1 hin_X4_weigh_X2 (List.mem_of_getElem? (i := 4) rfl) ?_
  refine x_icmp_ge (tgt := 104) hG dX4_weigh_35 (by decide) (fun hc2 => ?_) (fun hc2 => ?_)
  · have h := h.1 hc2
    refine x_iinc (v := _) hG dX4_weigh_104 rfl (x_iincE (k := 1) (by decide)) (Nat.le_of_ble_eq_true rfl) rfl ?_
    refine x_goto (tgt := 10) hG dX4_weigh_107 (by decide) ?_
    refine x_keep [true, true, true, true, false, false, false, false] rfl ?_
    exact hr10 _ _ _ _ h
  · have h := h.2 hc2
    refine x_aload_n hG dX4_weigh_38 rfl rfl ?_
    refine x_get_2_5 hG dX4_weigh_39 hk1 hin_X4_weigh_X2 (List.mem_of_getElem? (i := 5) rfl) ?_
    refine x_iload hG dX4_weigh_42 rfl ?_
    obtain ⟨hi3, h⟩ := h
    refine x_aaload11 hG dX4_weigh_44 (kf_2_5 hk1).1 (x_inE (kf_2_5 hk1).2 hi3) ?_
    refine x_iconst (v := (0 : Int32)) hG dX4_weigh_45 (by decide) ?_
    refine x_iaload hG dX4_weigh_46 (ke_2_5 hk1 (vp_lt hi3)).1 (x_inE (ke_2_5 hk1 (vp_lt hi3)).2 (x_inC (by decide))) ?_
    refine x_aload hG dX4_weigh_47 rfl ?_
    refine x_iconst (v := (0 : Int32)) hG dX4_weigh_49 (by decide) ?_
    obtain ⟨hk4, h⟩ := h
    obtain ⟨hi5, h⟩ := h
    refine x_iaload hG dX4_weigh_50 hk4 hi5 ?_
    refine x_icmp_ne (tgt := 58) hG dX4_weigh_51 (by decide) (fun hc6 => ?_) (fun hc6 => ?_)
    · have h := h.1 hc6
      refine x_iconst (v := (0 : Int32)) hG dX4_weigh_58 (by decide) ?_
      refine x_keep [true, true, true, true, true, true, false, false] rfl ?_
      exact k_X4_weigh_59 hG hQ hr10 hr29 _ _ _ _ _ _ _ h
    · have h := h.2 hc6
      refine x_iconst (v := (1 : Int32)) hG dX4_weigh_54 (by decide) ?_
      refine x_goto (tgt := 59) hG dX4_weigh_55 (by decide) ?_
      refine x_keep [true, true, true, true, true, true, false, false] rfl ?_
      exact k_X4_weigh_59 hG hQ hr10 hr29 _ _ _ _ _ _ _ h
set_option maxRecDepth 100000 in
set_option maxHeartbeats 4000000 in
theorem k_X4_weigh_10 {G : xG} {post : xMem → Prop} (hG : xOk G cX4_weigh RX4 wsX4_weigh rm_X4_weigh) (hQ : xRetV G post) : ∀ (M : xMem) (p1 : Nat) (p2 : Nat) (p3 : Int32), xlp4 (b_X4_weigh_10 post) M p1 p2 p3 → xW G M [some (.ref (xa G 14)), some (.ref (xa G p1)), some (.ref (xa G p2)), some (.int p3), none, none, none, none] [] 10 := by
  refine xlp4_W (W := fun M p1 p2 p3 => xW G M [some (.ref (xa G 14)), some (.ref (xa G p1)), some (.ref (xa G p2)), some (.int p3), none, none, none, none] [] 10) (fun r10 hr10 => ?_)
  intro M p1 p2 p3 h
  unfold b_X4_weigh_10 at h
  refine x_iload_n hG dX4_weigh_10 rfl rfl ?_
  refine x_aload_n hG dX4_weigh_11 rfl rfl ?_
  obtain ⟨hk1, h⟩ := h
  refine x_get_2_3 hG dX4_weigh_12 hk1 hin_X4_weigh_X2 (List.mem_of_getElem? (i := 2) rfl) ?_
  refine x_icmp_ge (tgt := 110) hG dX4_weigh_15 (by decide) (fun hc2 => ?_) (fun hc2 => ?_)
  · have h := h.1 hc2
    exact x_vret hG hQ dX4_weigh_110 h
  · have h := h.2 hc2
    refine x_aload_n hG dX4_weigh_18 rfl rfl ?_
    refine x_get_2_6 hG dX4_weigh_19 hk1 hin_X4_weigh_X2 (List.mem_of_getElem? (i := 3) rfl) ?_
    refine x_iload_n hG dX4_weigh_22 rfl rfl ?_
    obtain ⟨hi3, h⟩ := h
    refine x_aaload11 hG dX4_weigh_23 (kf_2_6 hk1).1 (x_inE (kf_2_6 hk1).2 hi3) ?_
    refine x_astore hG dX4_weigh_24 (Nat.le_of_ble_eq_true rfl) rfl ?_
    refine x_iconst (v := (0 : Int32)) hG dX4_weigh_26 (by decide) ?_
    refine x_istore hG dX4_weigh_27 (Nat.le_of_ble_eq_true rfl) rfl ?_
    refine x_keep [true, true, true, true, true, true, false, false] rfl ?_
    exact k_X4_weigh_29 hG hQ hr10 _ _ _ _ _ _ h
set_option maxRecDepth 100000 in
set_option maxHeartbeats 4000000 in
theorem c_X4_weigh {l : Launch} {a : Nat → Nat} {M : xMem} {p1 : Nat} {p2 : Nat} {post : xMem → Prop} (ha : xInj a) (h : w_X4_weigh M p1 p2 post) : ∀ D cs sz, xMetV l yX4_weigh wsX4_weigh rm_X4_weigh D a cs sz M [.ref (a 14), .ref (a p1), .ref (a p2)] post := by
  intro D cs sz
  unfold w_X4_weigh at h
  refine x_metV [some (.ref (a 14)), some (.ref (a p1)), some (.ref (a p2)), none, none, none, none, none] (by decide) rfl rfl (Nat.le_of_ble_eq_true rfl) rfl rfl ha D cs sz rfl (fun G e1 e2 hG hQ => ?_)
  subst e1
  subst e2
  refine x_aload_n hG dX4_weigh_0 rfl rfl ?_
  refine x_get_4_0 hG dX4_weigh_1 (rfl : kd 14 = 4) hin_X4_weigh_X4 (List.mem_of_getElem? (i := 1) rfl) ?_
  refine x_iconst (v := (0 : Int32)) hG dX4_weigh_4 (by decide) ?_
  refine x_cSV2 hG dX4_weigh_5 (fun ha => c_J7_fill_53178 ha h) gX4_weigh_J7_fill_53178 rfl ⟨rfl, rfl⟩ hy_J7_fill_53178 ⟨Nat.le_of_ble_eq_true rfl, Nat.le_of_ble_eq_true rfl⟩ (Nat.le_of_ble_eq_true rfl) (fun M2 h => ?_)
  refine x_iconst (v := (0 : Int32)) hG dX4_weigh_8 (by decide) ?_
  refine x_istore_n hG dX4_weigh_9 rfl (Nat.le_of_ble_eq_true rfl) rfl ?_
  refine x_keep [true, true, true, true, false, false, false, false] rfl ?_
  exact k_X4_weigh_10 hG hQ _ _ _ _ h
abbrev rm_X4_choose : Room := { frames := 1, cells := 0, slots := 0, locals := 20 }
theorem hy_X4_choose : yX4_choose.cls = RX4 ∧ yX4_choose.cls ≠ "java/lang/invoke/MethodHandle" ∧ yX4_choose.cls ≠ "java/lang/invoke/VarHandle" ∧ (parseMethodDescriptor yX4_choose.desc).map (fun d => d.parameters.length) = some 3 := by decide +kernel
theorem hin_X4_choose_X2 : ∀ w ∈ wsX20, w ∈ wsX4_choose := fun _ h => List.mem_cons_of_mem _ (List.mem_append_right _ h)
theorem hin_X4_choose_X4 : ∀ w ∈ wsX40, w ∈ wsX4_choose := fun _ h => List.mem_cons_of_mem _ (List.mem_append_left _ (List.mem_append_right _ h))
set_option maxRecDepth 100000 in
set_option maxHeartbeats 4000000 in
theorem k_X4_choose_88 {G : xG} {post : xMem → Prop} (hG : xOk G cX4_choose RX4 wsX4_choose rm_X4_choose) (hQ : xRetV G post) {r13 : xMem → Nat → Int32 → Int32 → Int32 → Prop} (hr13 : ∀ (M : xMem) (p1 : Nat) (p2 : Int32) (p3 : Int32) (p4 : Int32), r13 M p1 p2 p3 p4 → xW G M [some (.ref (xa G 14)), some (.ref (xa G p1)), some (.int p2), some (.int p3), some (.int p4), none, none] [] 13) : ∀ (M : xMem) (p1 : Nat) (p2 : Int32) (p3 : Int32) (p4 : Int32), b_X4_choose_88 post r13 M p1 p2 p3 p4 → xW G M [some (.ref (xa G 14)), some (.ref (xa G p1)), some (.int p2), some (.int p3), some (.int p4), none, none] [] 88 := by
  intro M p1 p2 p3 p4 h
  unfold b_X4_choose_88 at h
  refine x_iinc (v := _) hG dX4_choose_88 rfl (x_iincE (k := 1) (by decide)) (Nat.le_of_ble_eq_true rfl) rfl ?_
  refine x_goto (tgt := 13) hG dX4_choose_91 (by decide) ?_
  refine x_keep [true, true, true, true, true, false, false] rfl ?_
  exact hr13 _ _ _ _ _ h
set_option maxRecDepth 100000 in
set_option maxHeartbeats 4000000 in
theorem k_X4_choose_50 {G : xG} {post : xMem → Prop} (hG : xOk G cX4_choose RX4 wsX4_choose rm_X4_choose) (hQ : xRetV G post) {r13 : xMem → Nat → Int32 → Int32 → Int32 → Prop} (hr13 : ∀ (M : xMem) (p1 : Nat) (p2 : Int32) (p3 : Int32) (p4 : Int32), r13 M p1 p2 p3 p4 → xW G M [some (.ref (xa G 14)), some (.ref (xa G p1)), some (.int p2), some (.int p3), some (.int p4), none, none] [] 13) : ∀ (M : xMem) (p1 : Nat) (p2 : Int32) (p3 : Int32) (p4 : Int32) (p5 : Int32), b_X4_choose_50 post r13 M p1 p2 p3 p4 p5 → xW G M [some (.ref (xa G 14)), some (.ref (xa G p1)), some (.int p2), some (.int p3), some (.int p4), some (.int p5), none] [] 50 := by
  intro M p1 p2 p3 p4 p5 h
  unfold b_X4_choose_50 at h
  refine x_aload_n hG dX4_choose_50 rfl rfl ?_
  obtain ⟨hk1, h⟩ := h
  refine x_get_2_8 hG dX4_choose_51 hk1 hin_X4_choose_X2 (List.mem_of_getElem? (i := 5) rfl) ?_
  refine x_iload hG dX4_choose_54 rfl ?_
  obtain ⟨hi2, h⟩ := h
  refine x_iaload hG dX4_choose_56 (kf_2_8 hk1).1 (x_inE (kf_2_8 hk1).2 hi2) ?_
  refine x_aload_n hG dX4_choose_57 rfl rfl ?_
  refine x_get_2_9 hG dX4_choose_58 hk1 hin_X4_choose_X2 (List.mem_of_getElem? (i := 6) rfl) ?_
  refine x_iload hG dX4_choose_61 rfl ?_
  obtain ⟨hi3, h⟩ := h
  refine x_iaload hG dX4_choose_63 (kf_2_9 hk1).1 (x_inE (kf_2_9 hk1).2 hi3) ?_
  refine x_isub hG dX4_choose_64 ?_
  have h := h _ rfl
  refine x_istore hG dX4_choose_65 (Nat.le_of_ble_eq_true rfl) rfl ?_
  refine x_iload hG dX4_choose_67 rfl ?_
  refine x_aload_n hG dX4_choose_69 rfl rfl ?_
  refine x_get_4_3 hG dX4_choose_70 (rfl : kd 14 = 4) hin_X4_choose_X4 (List.mem_of_getElem? (i := 2) rfl) ?_
  refine x_icmp_le (tgt := 88) hG dX4_choose_73 (by decide) (fun hc5 => ?_) (fun hc5 => ?_)
  · have h := h.1 hc5
    refine x_keep [true, true, true, true, true, false, false] rfl ?_
    exact k_X4_choose_88 hG hQ hr13 _ _ _ _ _ h
  · have h := h.2 hc5
    refine x_aload_n hG dX4_choose_76 rfl rfl ?_
    refine x_iload hG dX4_choose_77 rfl ?_
    have h := h _ rfl
    refine x_put_4_3 hG dX4_choose_79 (rfl : kd 14 = 4) hin_X4_choose_X4 (List.mem_of_getElem? (i := 2) rfl) ?_
    refine x_aload_n hG dX4_choose_82 rfl rfl ?_
    refine x_iload hG dX4_choose_83 rfl ?_
    have h := h _ rfl
    refine x_put_4_2 hG dX4_choose_85 (rfl : kd 14 = 4) hin_X4_choose_X4 (List.mem_of_getElem? (i := 1) rfl) ?_
    refine x_keep [true, true, true, true, true, false, false] rfl ?_
    exact k_X4_choose_88 hG hQ hr13 _ _ _ _ _ h
set_option maxRecDepth 100000 in
set_option maxHeartbeats 4000000 in
theorem k_X4_choose_13 {G : xG} {post : xMem → Prop} (hG : xOk G cX4_choose RX4 wsX4_choose rm_X4_choose) (hQ : xRetV G post) : ∀ (M : xMem) (p1 : Nat) (p2 : Int32) (p3 : Int32) (p4 : Int32), xlp5 (b_X4_choose_13 post) M p1 p2 p3 p4 → xW G M [some (.ref (xa G 14)), some (.ref (xa G p1)), some (.int p2), some (.int p3), some (.int p4), none, none] [] 13 := by
  refine xlp5_W (W := fun M p1 p2 p3 p4 => xW G M [some (.ref (xa G 14)), some (.ref (xa G p1)), some (.int p2), some (.int p3), some (.int p4), none, none] [] 13) (fun r13 hr13 => ?_)
  intro M p1 p2 p3 p4 h
  unfold b_X4_choose_13 at h
  refine x_iload hG dX4_choose_13 rfl ?_
  refine x_aload_n hG dX4_choose_15 rfl rfl ?_
  have hk1 : kd p1 = 2 := And.left h
  refine x_cVI0 hG dX4_choose_16 (fun ha => c_X2_allWorkers ha h) gX4_choose_X2_allWorkers rfl ⟨rfl, rfl⟩ hy_X2_allWorkers ⟨Nat.le_of_ble_eq_true rfl, Nat.le_of_ble_eq_true rfl⟩ (kd_lt hk1 (by decide)) (fun _ => xc_2 hk1) rfl (Nat.le_of_ble_eq_true rfl) (fun z2 M3 h => ?_)
  refine x_icmp_gt (tgt := 94) hG dX4_choose_19 (by decide) (fun hc4 => ?_) (fun hc4 => ?_)
  · have h := h.1 hc4
    exact x_vret hG hQ dX4_choose_94 h
  · have h := h.2 hc4
    refine x_aload_n hG dX4_choose_22 rfl rfl ?_
    refine x_get_4_0 hG dX4_choose_23 (rfl : kd 14 = 4) hin_X4_choose_X4 (List.mem_of_getElem? (i := 3) rfl) ?_
    refine x_iload hG dX4_choose_26 rfl ?_
    obtain ⟨hi5, h⟩ := h
    refine x_iaload hG dX4_choose_28 (kf_4_0 (rfl : kd 14 = 4)).1 (x_inE (kf_4_0 (rfl : kd 14 = 4)).2 hi5) ?_
    refine x_aload_n hG dX4_choose_29 rfl rfl ?_
    refine x_get_2_7 hG dX4_choose_30 hk1 hin_X4_choose_X2 (List.mem_of_getElem? (i := 4) rfl) ?_
    refine x_iload_n hG dX4_choose_33 rfl rfl ?_
    obtain ⟨hi6, h⟩ := h
    refine x_iaload hG dX4_choose_34 (kf_2_7 hk1).1 (x_inE (kf_2_7 hk1).2 hi6) ?_
    refine x_iand hG dX4_choose_35 ?_
    have h := h _ rfl
    refine x_istore hG dX4_choose_36 (Nat.le_of_ble_eq_true rfl) rfl ?_
    refine x_iload_n hG dX4_choose_38 rfl rfl ?_
    refine x_if_ne (tgt := 50) hG dX4_choose_39 (by decide) (fun hc8 => ?_) (fun hc8 => ?_)
    · have h := h.1 hc8
      refine x_keep [true, true, true, true, true, true, false] rfl ?_
      exact k_X4_choose_50 hG hQ hr13 _ _ _ _ _ _ h
    · have h := h.2 hc8
      refine x_iload hG dX4_choose_42 rfl ?_
      refine x_if_eq (tgt := 50) hG dX4_choose_44 (by decide) (fun hc9 => ?_) (fun hc9 => ?_)
      · have h := h.1 hc9
        refine x_keep [true, true, true, true, true, true, false] rfl ?_
        exact k_X4_choose_50 hG hQ hr13 _ _ _ _ _ _ h
      · have h := h.2 hc9
        refine x_goto (tgt := 88) hG dX4_choose_47 (by decide) ?_
        refine x_keep [true, true, true, true, true, false, false] rfl ?_
        exact k_X4_choose_88 hG hQ hr13 _ _ _ _ _ h
set_option maxRecDepth 100000 in
set_option maxHeartbeats 4000000 in
theorem c_X4_choose {l : Launch} {a : Nat → Nat} {M : xMem} {p1 : Nat} {p2 : Int32} {p3 : Int32} {post : xMem → Prop} (ha : xInj a) (h : w_X4_choose M p1 p2 p3 post) : ∀ D cs sz, xMetV l yX4_choose wsX4_choose rm_X4_choose D a cs sz M [.ref (a 14), .ref (a p1), .int p2, .int p3] post := by
  intro D cs sz
  unfold w_X4_choose at h
  refine x_metV [some (.ref (a 14)), some (.ref (a p1)), some (.int p2), some (.int p3), none, none, none] (by decide) rfl rfl (Nat.le_of_ble_eq_true rfl) rfl rfl ha D cs sz rfl (fun G e1 e2 hG hQ => ?_)
  subst e1
  subst e2
  refine x_aload_n hG dX4_choose_0 rfl rfl ?_
  refine x_iconst (v := (0 : Int32)) hG dX4_choose_1 (by decide) ?_
  have h := h _ rfl
  refine x_put_4_2 hG dX4_choose_2 (rfl : kd 14 = 4) hin_X4_choose_X4 (List.mem_of_getElem? (i := 1) rfl) ?_
  refine x_aload_n hG dX4_choose_5 rfl rfl ?_
  refine x_iconst (v := (0 : Int32)) hG dX4_choose_6 (by decide) ?_
  have h := h _ rfl
  refine x_put_4_3 hG dX4_choose_7 (rfl : kd 14 = 4) hin_X4_choose_X4 (List.mem_of_getElem? (i := 2) rfl) ?_
  refine x_iconst (v := (1 : Int32)) hG dX4_choose_10 (by decide) ?_
  refine x_istore hG dX4_choose_11 (Nat.le_of_ble_eq_true rfl) rfl ?_
  refine x_keep [true, true, true, true, true, false, false] rfl ?_
  exact k_X4_choose_13 hG hQ _ _ _ _ _ h
abbrev rm_X4_wholeDay : Room := { frames := 2, cells := 0, slots := 0, locals := 46 }
theorem hy_X4_wholeDay : yX4_wholeDay.cls = RX4 ∧ yX4_wholeDay.cls ≠ "java/lang/invoke/MethodHandle" ∧ yX4_wholeDay.cls ≠ "java/lang/invoke/VarHandle" ∧ (parseMethodDescriptor yX4_wholeDay.desc).map (fun d => d.parameters.length) = some 2 := by decide +kernel
theorem hin_X4_wholeDay_X4 : ∀ w ∈ wsX40, w ∈ wsX4_wholeDay := fun _ h => List.mem_cons_of_mem _ (List.mem_append_left _ (List.mem_append_right _ h))
set_option maxRecDepth 100000 in
set_option maxHeartbeats 4000000 in
theorem k_X4_wholeDay_5 {G : xG} {post : Int32 → xMem → Prop} (hG : xOk G cX4_wholeDay RX4 wsX4_wholeDay rm_X4_wholeDay) (hQ : xRetI G post .int) : ∀ (M : xMem) (p1 : Nat) (p2 : Int32) (p3 : Int32) (p4 : Int32), xlp5 (b_X4_wholeDay_5 post) M p1 p2 p3 p4 → xW G M [some (.ref (xa G 14)), some (.ref (xa G p1)), some (.int p2), some (.int p3), some (.int p4)] [] 5 := by
  refine xlp5_W (W := fun M p1 p2 p3 p4 => xW G M [some (.ref (xa G 14)), some (.ref (xa G p1)), some (.int p2), some (.int p3), some (.int p4)] [] 5) (fun r5 hr5 => ?_)
  intro M p1 p2 p3 p4 h
  unfold b_X4_wholeDay_5 at h
  refine x_iload hG dX4_wholeDay_5 rfl ?_
  refine x_bipush (v := (12 : Int32)) hG dX4_wholeDay_7 (by decide) ?_
  refine x_icmp_ge (tgt := 33) hG dX4_wholeDay_9 (by decide) (fun hc1 => ?_) (fun hc1 => ?_)
  · have h := h.1 hc1
    refine x_iload_n hG dX4_wholeDay_33 rfl rfl ?_
    exact x_iret hG hQ dX4_wholeDay_34 rfl h
  · have h := h.2 hc1
    refine x_aload_n hG dX4_wholeDay_12 rfl rfl ?_
    refine x_aload_n hG dX4_wholeDay_13 rfl rfl ?_
    refine x_iload hG dX4_wholeDay_14 rfl ?_
    refine x_iload_n hG dX4_wholeDay_16 rfl rfl ?_
    refine x_cVV3 hG dX4_wholeDay_17 (fun ha => c_X4_choose ha h) gX4_wholeDay_X4_choose rfl ⟨rfl, rfl⟩ hy_X4_choose ⟨Nat.le_of_ble_eq_true rfl, Nat.le_of_ble_eq_true rfl⟩ (kd_lt (rfl : kd 14 = 4) (by decide)) (fun _ => xc_4 (rfl : kd 14 = 4)) rfl (Nat.le_of_ble_eq_true rfl) (fun M3 h => ?_)
    refine x_iload_n hG dX4_wholeDay_20 rfl rfl ?_
    refine x_aload_n hG dX4_wholeDay_21 rfl rfl ?_
    refine x_get_4_3 hG dX4_wholeDay_22 (rfl : kd 14 = 4) hin_X4_wholeDay_X4 (List.mem_of_getElem? (i := 1) rfl) ?_
    refine x_iadd hG dX4_wholeDay_25 ?_
    refine x_istore_n hG dX4_wholeDay_26 rfl (Nat.le_of_ble_eq_true rfl) rfl ?_
    refine x_iinc (v := _) hG dX4_wholeDay_27 rfl (x_iincE (k := 1) (by decide)) (Nat.le_of_ble_eq_true rfl) rfl ?_
    refine x_goto (tgt := 5) hG dX4_wholeDay_30 (by decide) ?_
    refine x_keep [true, true, true, true, true] rfl ?_
    exact hr5 _ _ _ _ _ h
set_option maxRecDepth 100000 in
set_option maxHeartbeats 4000000 in
theorem c_X4_wholeDay {l : Launch} {a : Nat → Nat} {M : xMem} {p1 : Nat} {p2 : Int32} {post : Int32 → xMem → Prop} (ha : xInj a) (h : w_X4_wholeDay M p1 p2 post) : ∀ D cs sz, xMetI l yX4_wholeDay wsX4_wholeDay rm_X4_wholeDay D a cs sz M [.ref (a 14), .ref (a p1), .int p2] post := by
  intro D cs sz
  unfold w_X4_wholeDay at h
  refine x_metI (ty := .int) [some (.ref (a 14)), some (.ref (a p1)), some (.int p2), none, none] (by decide) rfl rfl (Nat.le_of_ble_eq_true rfl) rfl rfl ha D cs sz rfl (fun G e1 e2 hG hQ => ?_)
  subst e1
  subst e2
  refine x_iconst (v := (0 : Int32)) hG dX4_wholeDay_0 (by decide) ?_
  refine x_istore_n hG dX4_wholeDay_1 rfl (Nat.le_of_ble_eq_true rfl) rfl ?_
  refine x_iconst (v := (0 : Int32)) hG dX4_wholeDay_2 (by decide) ?_
  refine x_istore hG dX4_wholeDay_3 (Nat.le_of_ble_eq_true rfl) rfl ?_
  refine x_keep [true, true, true, true, true] rfl ?_
  exact k_X4_wholeDay_5 hG hQ _ _ _ _ _ h
abbrev rm_X5_isLetter : Room := { frames := 0, cells := 0, slots := 0, locals := 0 }
theorem hy_X5_isLetter : yX5_isLetter.cls = RX5 ∧ yX5_isLetter.cls ≠ "java/lang/invoke/MethodHandle" ∧ yX5_isLetter.cls ≠ "java/lang/invoke/VarHandle" ∧ (parseMethodDescriptor yX5_isLetter.desc).map (fun d => d.parameters.length) = some 1 := by decide +kernel
theorem hin_X5_isLetter_X5 : ∀ w ∈ wsX50, w ∈ wsX5_isLetter := fun _ h => List.mem_cons_of_mem _ (List.mem_append_left _ (List.mem_append_right _ h))
theorem hin_X5_isLetter_X7 : ∀ w ∈ wsX70, w ∈ wsX5_isLetter := fun _ h => List.mem_cons_of_mem _ (List.mem_append_right _ h)
set_option maxRecDepth 100000 in
set_option maxHeartbeats 4000000 in
theorem c_X5_isLetter {l : Launch} {a : Nat → Nat} {M : xMem} {p1 : Int32} {post : Int32 → xMem → Prop} (ha : xInj a) (h : w_X5_isLetter M p1 post) : ∀ D cs sz, xMetI l yX5_isLetter wsX5_isLetter rm_X5_isLetter D a cs sz M [.ref (a 1), .int p1] post := by
  intro D cs sz
  unfold w_X5_isLetter at h
  refine x_metI (ty := .boolean) [some (.ref (a 1)), some (.int p1)] (by decide) rfl rfl (Nat.le_of_ble_eq_true rfl) rfl rfl ha D cs sz rfl (fun G e1 e2 hG hQ => ?_)
  subst e1
  subst e2
  refine x_aload_n hG dX5_isLetter_0 rfl rfl ?_
  refine x_get_5_0 hG dX5_isLetter_1 (rfl : kd 1 = 5) hin_X5_isLetter_X5 (List.mem_of_getElem? (i := 1) rfl) ?_
  refine x_get_7_0 hG dX5_isLetter_4 (kf_5_0 (rfl : kd 1 = 5)).1 hin_X5_isLetter_X7 (List.mem_of_getElem? (i := 2) rfl) ?_
  refine x_iload_n hG dX5_isLetter_7 rfl rfl ?_
  obtain ⟨hi1, h⟩ := h
  refine x_iaload hG dX5_isLetter_8 (kf_7_0 (kf_5_0 (rfl : kd 1 = 5)).1).1 (x_inE (kf_7_0 (kf_5_0 (rfl : kd 1 = 5)).1).2 hi1) ?_
  refine x_bipush (v := (97 : Int32)) hG dX5_isLetter_9 (by decide) ?_
  refine x_icmp_lt (tgt := 32) hG dX5_isLetter_11 (by decide) (fun hc2 => ?_) (fun hc2 => ?_)
  · have h := h.1 hc2
    refine x_iconst (v := (0 : Int32)) hG dX5_isLetter_32 (by decide) ?_
    exact x_iret hG hQ dX5_isLetter_33 rfl h
  · have h := h.2 hc2
    refine x_aload_n hG dX5_isLetter_14 rfl rfl ?_
    refine x_get_5_0 hG dX5_isLetter_15 (rfl : kd 1 = 5) hin_X5_isLetter_X5 (List.mem_of_getElem? (i := 1) rfl) ?_
    refine x_get_7_0 hG dX5_isLetter_18 (kf_5_0 (rfl : kd 1 = 5)).1 hin_X5_isLetter_X7 (List.mem_of_getElem? (i := 2) rfl) ?_
    refine x_iload_n hG dX5_isLetter_21 rfl rfl ?_
    refine x_iaload hG dX5_isLetter_22 (kf_7_0 (kf_5_0 (rfl : kd 1 = 5)).1).1 (x_inE (kf_7_0 (kf_5_0 (rfl : kd 1 = 5)).1).2 hi1) ?_
    refine x_bipush (v := (122 : Int32)) hG dX5_isLetter_23 (by decide) ?_
    refine x_icmp_gt (tgt := 32) hG dX5_isLetter_25 (by decide) (fun hc3 => ?_) (fun hc3 => ?_)
    · have h := h.1 hc3
      refine x_iconst (v := (0 : Int32)) hG dX5_isLetter_32 (by decide) ?_
      exact x_iret hG hQ dX5_isLetter_33 rfl h
    · have h := h.2 hc3
      refine x_iconst (v := (1 : Int32)) hG dX5_isLetter_28 (by decide) ?_
      refine x_goto (tgt := 33) hG dX5_isLetter_29 (by decide) ?_
      exact x_iret hG hQ dX5_isLetter_33 rfl h
abbrev rm_J0_coder_7d493 : Room := { frames := 0, cells := 0, slots := 0, locals := 0 }
theorem hy_J0_coder_7d493 : yJ0_coder_7d493.cls = RJ0 ∧ yJ0_coder_7d493.cls ≠ "java/lang/invoke/MethodHandle" ∧ yJ0_coder_7d493.cls ≠ "java/lang/invoke/VarHandle" ∧ (parseMethodDescriptor yJ0_coder_7d493.desc).map (fun d => d.parameters.length) = some 0 := by decide +kernel
set_option maxRecDepth 100000 in
set_option maxHeartbeats 4000000 in
theorem c_J0_coder_7d493 {l : Launch} {a : Nat → Nat} {M : xMem} {h0 : Nat} {post : Int32 → xMem → Prop} (ha : xInj a) (h : w_J0_coder_7d493 M h0 post) : ∀ D cs sz, xMetI l yJ0_coder_7d493 wsJ0_coder_7d493 rm_J0_coder_7d493 D a cs sz M [.ref (a (100 + h0))] post := by
  intro D cs sz
  unfold w_J0_coder_7d493 at h
  obtain ⟨hk0, h⟩ := h
  refine x_metI (ty := .byte) [some (.ref (a (100 + h0)))] (by decide) rfl rfl (Nat.le_of_ble_eq_true rfl) rfl rfl ha D cs sz rfl (fun G e1 e2 hG hQ => ?_)
  subst e1
  subst e2
  refine x_scomp hG dJ0_coder_7d493_0 (List.mem_of_getElem? (i := 1) rfl) ?_
  refine x_if_eq (tgt := 13) hG dJ0_coder_7d493_3 (by decide) (fun hc1 => ?_) (fun hc1 => ?_)
  · have h := h.1 hc1
    refine x_iconst (v := (1 : Int32)) hG dJ0_coder_7d493_13 (by decide) ?_
    exact x_iret hG hQ dJ0_coder_7d493_14 h.1 h.2
  · have h := h.2 hc1
    refine x_aload_n hG dJ0_coder_7d493_6 rfl rfl ?_
    refine x_scod hG dJ0_coder_7d493_7 hk0 (List.mem_of_getElem? (i := 2) rfl) ?_
    refine x_goto (tgt := 14) hG dJ0_coder_7d493_10 (by decide) ?_
    exact x_iret hG hQ dJ0_coder_7d493_14 h.1 h.2
abbrev rm_J0_length_8abf5 : Room := { frames := 1, cells := 0, slots := 0, locals := 20 }
theorem hy_J0_length_8abf5 : yJ0_length_8abf5.cls = RJ0 ∧ yJ0_length_8abf5.cls ≠ "java/lang/invoke/MethodHandle" ∧ yJ0_length_8abf5.cls ≠ "java/lang/invoke/VarHandle" ∧ (parseMethodDescriptor yJ0_length_8abf5.desc).map (fun d => d.parameters.length) = some 0 := by decide +kernel
set_option maxRecDepth 100000 in
set_option maxHeartbeats 4000000 in
theorem c_J0_length_8abf5 {l : Launch} {a : Nat → Nat} {M : xMem} {h0 : Nat} {post : Int32 → xMem → Prop} (ha : xInj a) (h : w_J0_length_8abf5 M h0 post) : ∀ D cs sz, xMetI l yJ0_length_8abf5 wsJ0_length_8abf5 rm_J0_length_8abf5 D a cs sz M [.ref (a (100 + h0))] post := by
  intro D cs sz
  unfold w_J0_length_8abf5 at h
  obtain ⟨hk0, h⟩ := h
  refine x_metI (ty := .int) [some (.ref (a (100 + h0)))] (by decide) rfl rfl (Nat.le_of_ble_eq_true rfl) rfl rfl ha D cs sz rfl (fun G e1 e2 hG hQ => ?_)
  subst e1
  subst e2
  refine x_aload_n hG dJ0_length_8abf5_0 rfl rfl ?_
  refine x_sval hG dJ0_length_8abf5_1 hk0 (List.mem_of_getElem? (i := 1) rfl) ?_
  refine x_slen hG dJ0_length_8abf5_4 hk0 ?_
  refine x_aload_n hG dJ0_length_8abf5_5 rfl rfl ?_
  refine x_cKI0 hG dJ0_length_8abf5_6 (fun ha => c_J0_coder_7d493 ha h) gJ0_length_8abf5_J0_coder_7d493 rfl ⟨rfl, rfl⟩ hy_J0_coder_7d493 ⟨Nat.le_of_ble_eq_true rfl, Nat.le_of_ble_eq_true rfl⟩ hk0 (Nat.le_of_ble_eq_true rfl) (fun z1 M2 h => ?_)
  refine x_ishr hG dJ0_length_8abf5_9 ?_
  exact x_iret hG hQ dJ0_length_8abf5_10 rfl h
abbrev rm_J0_isLatin1_aae02 : Room := { frames := 0, cells := 0, slots := 0, locals := 0 }
theorem hy_J0_isLatin1_aae02 : yJ0_isLatin1_aae02.cls = RJ0 ∧ yJ0_isLatin1_aae02.cls ≠ "java/lang/invoke/MethodHandle" ∧ yJ0_isLatin1_aae02.cls ≠ "java/lang/invoke/VarHandle" ∧ (parseMethodDescriptor yJ0_isLatin1_aae02.desc).map (fun d => d.parameters.length) = some 0 := by decide +kernel
set_option maxRecDepth 100000 in
set_option maxHeartbeats 4000000 in
theorem c_J0_isLatin1_aae02 {l : Launch} {a : Nat → Nat} {M : xMem} {h0 : Nat} {post : Int32 → xMem → Prop} (ha : xInj a) (h : w_J0_isLatin1_aae02 M h0 post) : ∀ D cs sz, xMetI l yJ0_isLatin1_aae02 wsJ0_isLatin1_aae02 rm_J0_isLatin1_aae02 D a cs sz M [.ref (a (100 + h0))] post := by
  intro D cs sz
  unfold w_J0_isLatin1_aae02 at h
  obtain ⟨hk0, h⟩ := h
  refine x_metI (ty := .boolean) [some (.ref (a (100 + h0)))] (by decide) rfl rfl (Nat.le_of_ble_eq_true rfl) rfl rfl ha D cs sz rfl (fun G e1 e2 hG hQ => ?_)
  subst e1
  subst e2
  refine x_scomp hG dJ0_isLatin1_aae02_0 (List.mem_of_getElem? (i := 1) rfl) ?_
  refine x_if_eq (tgt := 17) hG dJ0_isLatin1_aae02_3 (by decide) (fun hc1 => ?_) (fun hc1 => ?_)
  · have h := h.1 hc1
    refine x_iconst (v := (0 : Int32)) hG dJ0_isLatin1_aae02_17 (by decide) ?_
    exact x_iret hG hQ dJ0_isLatin1_aae02_18 rfl h
  · have h := h.2 hc1
    refine x_aload_n hG dJ0_isLatin1_aae02_6 rfl rfl ?_
    refine x_scod hG dJ0_isLatin1_aae02_7 hk0 (List.mem_of_getElem? (i := 2) rfl) ?_
    refine x_if_ne (tgt := 17) hG dJ0_isLatin1_aae02_10 (by decide) (fun hc2 => ?_) (fun hc2 => ?_)
    · have h := h.1 hc2
      refine x_iconst (v := (0 : Int32)) hG dJ0_isLatin1_aae02_17 (by decide) ?_
      exact x_iret hG hQ dJ0_isLatin1_aae02_18 rfl h
    · have h := h.2 hc2
      refine x_iconst (v := (1 : Int32)) hG dJ0_isLatin1_aae02_13 (by decide) ?_
      refine x_goto (tgt := 18) hG dJ0_isLatin1_aae02_14 (by decide) ?_
      exact x_iret hG hQ dJ0_isLatin1_aae02_18 rfl h
abbrev rm_J1_charAt_3b067 : Room := { frames := 2, cells := 0, slots := 0, locals := 43 }
theorem hy_J1_charAt_3b067 : yJ1_charAt_3b067.cls ≠ "java/lang/invoke/MethodHandle" ∧ yJ1_charAt_3b067.cls ≠ "java/lang/invoke/VarHandle" ∧ (parseMethodDescriptor yJ1_charAt_3b067.desc).map (fun d => d.parameters.length) = some 2 := by decide +kernel
set_option maxRecDepth 100000 in
set_option maxHeartbeats 4000000 in
theorem c_J1_charAt_3b067 {l : Launch} {a : Nat → Nat} {M : xMem} {p0 : Nat} {p1 : Int32} {post : Int32 → xMem → Prop} (ha : xInj a) (h : w_J1_charAt_3b067 M p0 p1 post) : ∀ D cs sz, xMetI l yJ1_charAt_3b067 wsJ1_charAt_3b067 rm_J1_charAt_3b067 D a cs sz M [.ref (a (200 + p0)), .int p1] post := by
  intro D cs sz
  unfold w_J1_charAt_3b067 at h
  refine x_metI (ty := .char) [some (.ref (a (200 + p0))), some (.int p1)] (by decide) rfl rfl (Nat.le_of_ble_eq_true rfl) rfl rfl ha D cs sz rfl (fun G e1 e2 hG hQ => ?_)
  subst e1
  subst e2
  refine x_iload_n hG dJ1_charAt_3b067_0 rfl rfl ?_
  refine x_aload_n hG dJ1_charAt_3b067_1 rfl rfl ?_
  obtain ⟨hs1, h⟩ := h
  refine x_slen hG dJ1_charAt_3b067_2 hs1 ?_
  refine x_cSV2 hG dJ1_charAt_3b067_3 (fun ha => c_J0_checkIndex_df160 ha h) gJ1_charAt_3b067_J0_checkIndex_df160 rfl ⟨rfl, rfl⟩ hy_J0_checkIndex_df160 ⟨Nat.le_of_ble_eq_true rfl, Nat.le_of_ble_eq_true rfl⟩ (Nat.le_of_ble_eq_true rfl) (fun M3 h => ?_)
  refine x_aload_n hG dJ1_charAt_3b067_6 rfl rfl ?_
  refine x_iload_n hG dJ1_charAt_3b067_7 rfl rfl ?_
  obtain ⟨hi4, h⟩ := h
  refine x_sbld hG dJ1_charAt_3b067_8 hs1 hi4 ?_
  refine x_sipush (v := (255 : Int32)) hG dJ1_charAt_3b067_9 (by decide) ?_
  refine x_iand hG dJ1_charAt_3b067_12 ?_
  refine x_i2c hG dJ1_charAt_3b067_13 ?_
  exact x_iret hG hQ dJ1_charAt_3b067_14 h.1 h.2
abbrev rm_J0_charAt_5068e : Room := { frames := 3, cells := 0, slots := 0, locals := 64 }
theorem hy_J0_charAt_5068e : yJ0_charAt_5068e.cls = RJ0 ∧ yJ0_charAt_5068e.cls ≠ "java/lang/invoke/MethodHandle" ∧ yJ0_charAt_5068e.cls ≠ "java/lang/invoke/VarHandle" ∧ (parseMethodDescriptor yJ0_charAt_5068e.desc).map (fun d => d.parameters.length) = some 1 := by decide +kernel
set_option maxRecDepth 100000 in
set_option maxHeartbeats 4000000 in
theorem c_J0_charAt_5068e {l : Launch} {a : Nat → Nat} {M : xMem} {h0 : Nat} {p1 : Int32} {post : Int32 → xMem → Prop} (ha : xInj a) (h : w_J0_charAt_5068e M h0 p1 post) : ∀ D cs sz, xMetI l yJ0_charAt_5068e wsJ0_charAt_5068e rm_J0_charAt_5068e D a cs sz M [.ref (a (100 + h0)), .int p1] post := by
  intro D cs sz
  unfold w_J0_charAt_5068e at h
  obtain ⟨hk0, h⟩ := h
  refine x_metI (ty := .char) [some (.ref (a (100 + h0))), some (.int p1)] (by decide) rfl rfl (Nat.le_of_ble_eq_true rfl) rfl rfl ha D cs sz rfl (fun G e1 e2 hG hQ => ?_)
  subst e1
  subst e2
  refine x_aload_n hG dJ0_charAt_5068e_0 rfl rfl ?_
  refine x_cKI0 hG dJ0_charAt_5068e_1 (fun ha => c_J0_isLatin1_aae02 ha h) gJ0_charAt_5068e_J0_isLatin1_aae02 rfl ⟨rfl, rfl⟩ hy_J0_isLatin1_aae02 ⟨Nat.le_of_ble_eq_true rfl, Nat.le_of_ble_eq_true rfl⟩ hk0 (Nat.le_of_ble_eq_true rfl) (fun z1 M2 h => ?_)
  refine x_if_eq (tgt := 16) hG dJ0_charAt_5068e_4 (by decide) (fun hc3 => ?_) (fun hc3 => ?_)
  · have h := h.1 hc3
    refine x_aload_n hG dJ0_charAt_5068e_16 rfl rfl ?_
    refine x_sval hG dJ0_charAt_5068e_17 hk0 (List.mem_of_getElem? (i := 1) rfl) ?_
    refine x_iload_n hG dJ0_charAt_5068e_20 rfl rfl ?_
    refine x_cSI2 hG dJ0_charAt_5068e_21 (fun ha => c_J2_charAt_3b067 ha h) gJ0_charAt_5068e_J2_charAt_3b067 rfl ⟨rfl, rfl⟩ hy_J2_charAt_3b067 ⟨Nat.le_of_ble_eq_true rfl, Nat.le_of_ble_eq_true rfl⟩ (Nat.le_of_ble_eq_true rfl) (fun z4 M5 h => ?_)
    exact x_iret hG hQ dJ0_charAt_5068e_24 h.1 h.2
  · have h := h.2 hc3
    refine x_aload_n hG dJ0_charAt_5068e_7 rfl rfl ?_
    refine x_sval hG dJ0_charAt_5068e_8 hk0 (List.mem_of_getElem? (i := 1) rfl) ?_
    refine x_iload_n hG dJ0_charAt_5068e_11 rfl rfl ?_
    refine x_cSI2 hG dJ0_charAt_5068e_12 (fun ha => c_J1_charAt_3b067 ha h) gJ0_charAt_5068e_J1_charAt_3b067 rfl ⟨rfl, rfl⟩ hy_J1_charAt_3b067 ⟨Nat.le_of_ble_eq_true rfl, Nat.le_of_ble_eq_true rfl⟩ (Nat.le_of_ble_eq_true rfl) (fun z6 M7 h => ?_)
    exact x_iret hG hQ dJ0_charAt_5068e_15 h.1 h.2
abbrev rm_X5_spells : Room := { frames := 4, cells := 0, slots := 0, locals := 85 }
theorem hy_X5_spells : yX5_spells.cls = RX5 ∧ yX5_spells.cls ≠ "java/lang/invoke/MethodHandle" ∧ yX5_spells.cls ≠ "java/lang/invoke/VarHandle" ∧ (parseMethodDescriptor yX5_spells.desc).map (fun d => d.parameters.length) = some 1 := by decide +kernel
theorem hin_X5_spells_X5 : ∀ w ∈ wsX50, w ∈ wsX5_spells := fun _ h => List.mem_cons_of_mem _ (List.mem_append_left _ (List.mem_append_right _ h))
theorem hin_X5_spells_X7 : ∀ w ∈ wsX70, w ∈ wsX5_spells := fun _ h => List.mem_cons_of_mem _ (List.mem_append_right _ h)
set_option maxRecDepth 100000 in
set_option maxHeartbeats 4000000 in
theorem k_X5_spells_20 {G : xG} {post : Int32 → xMem → Prop} (hG : xOk G cX5_spells RX5 wsX5_spells rm_X5_spells) (hQ : xRetI G post .boolean) : ∀ (M : xMem) (p1 : Nat) (p2 : Int32), xlp3 (b_X5_spells_20 post) M p1 p2 → xW G M [some (.ref (xa G 1)), some (.ref (xa G (100 + p1))), some (.int p2)] [] 20 := by
  refine xlp3_W (W := fun M p1 p2 => xW G M [some (.ref (xa G 1)), some (.ref (xa G (100 + p1))), some (.int p2)] [] 20) (fun r20 hr20 => ?_)
  intro M p1 p2 h
  unfold b_X5_spells_20 at h
  refine x_iload_n hG dX5_spells_20 rfl rfl ?_
  refine x_aload_n hG dX5_spells_21 rfl rfl ?_
  obtain ⟨hs1, h⟩ := h
  refine x_cKI0 hG dX5_spells_22 (fun ha => c_J0_length_8abf5 ha h) gX5_spells_J0_length_8abf5 rfl ⟨rfl, rfl⟩ hy_J0_length_8abf5 ⟨Nat.le_of_ble_eq_true rfl, Nat.le_of_ble_eq_true rfl⟩ hs1 (Nat.le_of_ble_eq_true rfl) (fun z2 M3 h => ?_)
  refine x_icmp_ge (tgt := 58) hG dX5_spells_25 (by decide) (fun hc4 => ?_) (fun hc4 => ?_)
  · have h := h.1 hc4
    refine x_iconst (v := (1 : Int32)) hG dX5_spells_58 (by decide) ?_
    exact x_iret hG hQ dX5_spells_59 rfl h
  · have h := h.2 hc4
    refine x_aload_n hG dX5_spells_28 rfl rfl ?_
    refine x_get_5_0 hG dX5_spells_29 (rfl : kd 1 = 5) hin_X5_spells_X5 (List.mem_of_getElem? (i := 3) rfl) ?_
    refine x_get_7_0 hG dX5_spells_32 (kf_5_0 (rfl : kd 1 = 5)).1 hin_X5_spells_X7 (List.mem_of_getElem? (i := 4) rfl) ?_
    refine x_aload_n hG dX5_spells_35 rfl rfl ?_
    refine x_get_5_3 hG dX5_spells_36 (rfl : kd 1 = 5) hin_X5_spells_X5 (List.mem_of_getElem? (i := 2) rfl) ?_
    refine x_iload_n hG dX5_spells_39 rfl rfl ?_
    refine x_iadd hG dX5_spells_40 ?_
    obtain ⟨hi5, h⟩ := h
    refine x_iaload hG dX5_spells_41 (kf_7_0 (kf_5_0 (rfl : kd 1 = 5)).1).1 (x_inE (kf_7_0 (kf_5_0 (rfl : kd 1 = 5)).1).2 hi5) ?_
    refine x_aload_n hG dX5_spells_42 rfl rfl ?_
    refine x_iload_n hG dX5_spells_43 rfl rfl ?_
    refine x_cKI1 hG dX5_spells_44 (fun ha => c_J0_charAt_5068e ha h) gX5_spells_J0_charAt_5068e rfl ⟨rfl, rfl⟩ hy_J0_charAt_5068e ⟨Nat.le_of_ble_eq_true rfl, Nat.le_of_ble_eq_true rfl⟩ hs1 (Nat.le_of_ble_eq_true rfl) (fun z6 M7 h => ?_)
    refine x_icmp_eq (tgt := 52) hG dX5_spells_47 (by decide) (fun hc8 => ?_) (fun hc8 => ?_)
    · have h := h.1 hc8
      refine x_iinc (v := _) hG dX5_spells_52 rfl (x_iincE (k := 1) (by decide)) (Nat.le_of_ble_eq_true rfl) rfl ?_
      refine x_goto (tgt := 20) hG dX5_spells_55 (by decide) ?_
      refine x_keep [true, true, true] rfl ?_
      exact hr20 _ _ _ h
    · have h := h.2 hc8
      refine x_iconst (v := (0 : Int32)) hG dX5_spells_50 (by decide) ?_
      exact x_iret hG hQ dX5_spells_51 rfl h
set_option maxRecDepth 100000 in
set_option maxHeartbeats 4000000 in
theorem c_X5_spells {l : Launch} {a : Nat → Nat} {M : xMem} {p1 : Nat} {post : Int32 → xMem → Prop} (ha : xInj a) (h : w_X5_spells M p1 post) : ∀ D cs sz, xMetI l yX5_spells wsX5_spells rm_X5_spells D a cs sz M [.ref (a 1), .ref (a (100 + p1))] post := by
  intro D cs sz
  unfold w_X5_spells at h
  refine x_metI (ty := .boolean) [some (.ref (a 1)), some (.ref (a (100 + p1))), none] (by decide) rfl rfl (Nat.le_of_ble_eq_true rfl) rfl rfl ha D cs sz rfl (fun G e1 e2 hG hQ => ?_)
  subst e1
  subst e2
  refine x_aload_n hG dX5_spells_0 rfl rfl ?_
  refine x_get_5_2 hG dX5_spells_1 (rfl : kd 1 = 5) hin_X5_spells_X5 (List.mem_of_getElem? (i := 1) rfl) ?_
  refine x_aload_n hG dX5_spells_4 rfl rfl ?_
  refine x_get_5_3 hG dX5_spells_5 (rfl : kd 1 = 5) hin_X5_spells_X5 (List.mem_of_getElem? (i := 2) rfl) ?_
  refine x_isub hG dX5_spells_8 ?_
  refine x_aload_n hG dX5_spells_9 rfl rfl ?_
  obtain ⟨hs1, h⟩ := h
  refine x_cKI0 hG dX5_spells_10 (fun ha => c_J0_length_8abf5 ha h) gX5_spells_J0_length_8abf5 rfl ⟨rfl, rfl⟩ hy_J0_length_8abf5 ⟨Nat.le_of_ble_eq_true rfl, Nat.le_of_ble_eq_true rfl⟩ hs1 (Nat.le_of_ble_eq_true rfl) (fun z2 M3 h => ?_)
  refine x_icmp_eq (tgt := 18) hG dX5_spells_13 (by decide) (fun hc4 => ?_) (fun hc4 => ?_)
  · have h := h.1 hc4
    refine x_iconst (v := (0 : Int32)) hG dX5_spells_18 (by decide) ?_
    refine x_istore_n hG dX5_spells_19 rfl (Nat.le_of_ble_eq_true rfl) rfl ?_
    refine x_keep [true, true, true] rfl ?_
    exact k_X5_spells_20 hG hQ _ _ _ h
  · have h := h.2 hc4
    refine x_iconst (v := (0 : Int32)) hG dX5_spells_16 (by decide) ?_
    exact x_iret hG hQ dX5_spells_17 rfl h
abbrev rm_X5_wordToken : Room := { frames := 5, cells := 0, slots := 0, locals := 107 }
theorem hy_X5_wordToken : yX5_wordToken.cls = RX5 ∧ yX5_wordToken.cls ≠ "java/lang/invoke/MethodHandle" ∧ yX5_wordToken.cls ≠ "java/lang/invoke/VarHandle" ∧ (parseMethodDescriptor yX5_wordToken.desc).map (fun d => d.parameters.length) = some 0 := by decide +kernel
theorem hin_X5_wordToken_X5 : ∀ w ∈ wsX50, w ∈ wsX5_wordToken := fun _ h => List.mem_cons_of_mem _ (List.mem_append_left _ (List.mem_append_right _ h))
theorem hin_X5_wordToken_X7 : ∀ w ∈ wsX70, w ∈ wsX5_wordToken := fun _ h => List.mem_cons_of_mem _ (List.mem_append_right _ h)
set_option maxRecDepth 100000 in
set_option maxHeartbeats 4000000 in
theorem k_X5_wordToken_38 {G : xG} {post : Int32 → xMem → Prop} (hG : xOk G cX5_wordToken RX5 wsX5_wordToken rm_X5_wordToken) (hQ : xRetI G post .int) : ∀ (M : xMem), b_X5_wordToken_38 post M → xW G M [some (.ref (xa G 1))] [] 38 := by
  intro M h
  unfold b_X5_wordToken_38 at h
  refine x_aload_n hG dX5_wordToken_38 rfl rfl ?_
  refine x_ldcs (i := 0) hG dX5_wordToken_39 (by decide) rfl ?_
  refine x_cVI1 hG dX5_wordToken_41 (fun ha => c_X5_spells ha h) gX5_wordToken_X5_spells rfl ⟨rfl, rfl⟩ hy_X5_spells ⟨Nat.le_of_ble_eq_true rfl, Nat.le_of_ble_eq_true rfl⟩ (kd_lt (rfl : kd 1 = 5) (by decide)) (fun _ => xc_5 (rfl : kd 1 = 5)) rfl (Nat.le_of_ble_eq_true rfl) (fun z1 M2 h => ?_)
  refine x_if_eq (tgt := 49) hG dX5_wordToken_44 (by decide) (fun hc3 => ?_) (fun hc3 => ?_)
  · have h := h.1 hc3
    refine x_aload_n hG dX5_wordToken_49 rfl rfl ?_
    refine x_ldcs (i := 1) hG dX5_wordToken_50 (by decide) rfl ?_
    refine x_cVI1 hG dX5_wordToken_52 (fun ha => c_X5_spells ha h) gX5_wordToken_X5_spells rfl ⟨rfl, rfl⟩ hy_X5_spells ⟨Nat.le_of_ble_eq_true rfl, Nat.le_of_ble_eq_true rfl⟩ (kd_lt (rfl : kd 1 = 5) (by decide)) (fun _ => xc_5 (rfl : kd 1 = 5)) rfl (Nat.le_of_ble_eq_true rfl) (fun z4 M5 h => ?_)
    refine x_if_eq (tgt := 60) hG dX5_wordToken_55 (by decide) (fun hc6 => ?_) (fun hc6 => ?_)
    · have h := h.1 hc6
      refine x_aload_n hG dX5_wordToken_60 rfl rfl ?_
      refine x_ldcs (i := 2) hG dX5_wordToken_61 (by decide) rfl ?_
      refine x_cVI1 hG dX5_wordToken_63 (fun ha => c_X5_spells ha h) gX5_wordToken_X5_spells rfl ⟨rfl, rfl⟩ hy_X5_spells ⟨Nat.le_of_ble_eq_true rfl, Nat.le_of_ble_eq_true rfl⟩ (kd_lt (rfl : kd 1 = 5) (by decide)) (fun _ => xc_5 (rfl : kd 1 = 5)) rfl (Nat.le_of_ble_eq_true rfl) (fun z7 M8 h => ?_)
      refine x_if_eq (tgt := 72) hG dX5_wordToken_66 (by decide) (fun hc9 => ?_) (fun hc9 => ?_)
      · have h := h.1 hc9
        refine x_aload_n hG dX5_wordToken_72 rfl rfl ?_
        refine x_ldcs (i := 3) hG dX5_wordToken_73 (by decide) rfl ?_
        refine x_cVI1 hG dX5_wordToken_75 (fun ha => c_X5_spells ha h) gX5_wordToken_X5_spells rfl ⟨rfl, rfl⟩ hy_X5_spells ⟨Nat.le_of_ble_eq_true rfl, Nat.le_of_ble_eq_true rfl⟩ (kd_lt (rfl : kd 1 = 5) (by decide)) (fun _ => xc_5 (rfl : kd 1 = 5)) rfl (Nat.le_of_ble_eq_true rfl) (fun z10 M11 h => ?_)
        refine x_if_eq (tgt := 84) hG dX5_wordToken_78 (by decide) (fun hc12 => ?_) (fun hc12 => ?_)
        · have h := h.1 hc12
          refine x_aload_n hG dX5_wordToken_84 rfl rfl ?_
          refine x_ldcs (i := 4) hG dX5_wordToken_85 (by decide) rfl ?_
          refine x_cVI1 hG dX5_wordToken_87 (fun ha => c_X5_spells ha h) gX5_wordToken_X5_spells rfl ⟨rfl, rfl⟩ hy_X5_spells ⟨Nat.le_of_ble_eq_true rfl, Nat.le_of_ble_eq_true rfl⟩ (kd_lt (rfl : kd 1 = 5) (by decide)) (fun _ => xc_5 (rfl : kd 1 = 5)) rfl (Nat.le_of_ble_eq_true rfl) (fun z13 M14 h => ?_)
          refine x_if_eq (tgt := 96) hG dX5_wordToken_90 (by decide) (fun hc15 => ?_) (fun hc15 => ?_)
          · have h := h.1 hc15
            refine x_aload_n hG dX5_wordToken_96 rfl rfl ?_
            refine x_ldcs (i := 5) hG dX5_wordToken_97 (by decide) rfl ?_
            refine x_cVI1 hG dX5_wordToken_99 (fun ha => c_X5_spells ha h) gX5_wordToken_X5_spells rfl ⟨rfl, rfl⟩ hy_X5_spells ⟨Nat.le_of_ble_eq_true rfl, Nat.le_of_ble_eq_true rfl⟩ (kd_lt (rfl : kd 1 = 5) (by decide)) (fun _ => xc_5 (rfl : kd 1 = 5)) rfl (Nat.le_of_ble_eq_true rfl) (fun z16 M17 h => ?_)
            refine x_if_eq (tgt := 108) hG dX5_wordToken_102 (by decide) (fun hc18 => ?_) (fun hc18 => ?_)
            · have h := h.1 hc18
              refine x_aload_n hG dX5_wordToken_108 rfl rfl ?_
              refine x_ldcs (i := 6) hG dX5_wordToken_109 (by decide) rfl ?_
              refine x_cVI1 hG dX5_wordToken_111 (fun ha => c_X5_spells ha h) gX5_wordToken_X5_spells rfl ⟨rfl, rfl⟩ hy_X5_spells ⟨Nat.le_of_ble_eq_true rfl, Nat.le_of_ble_eq_true rfl⟩ (kd_lt (rfl : kd 1 = 5) (by decide)) (fun _ => xc_5 (rfl : kd 1 = 5)) rfl (Nat.le_of_ble_eq_true rfl) (fun z19 M20 h => ?_)
              refine x_if_eq (tgt := 120) hG dX5_wordToken_114 (by decide) (fun hc21 => ?_) (fun hc21 => ?_)
              · have h := h.1 hc21
                refine x_aload_n hG dX5_wordToken_120 rfl rfl ?_
                refine x_ldcs (i := 7) hG dX5_wordToken_121 (by decide) rfl ?_
                refine x_cVI1 hG dX5_wordToken_123 (fun ha => c_X5_spells ha h) gX5_wordToken_X5_spells rfl ⟨rfl, rfl⟩ hy_X5_spells ⟨Nat.le_of_ble_eq_true rfl, Nat.le_of_ble_eq_true rfl⟩ (kd_lt (rfl : kd 1 = 5) (by decide)) (fun _ => xc_5 (rfl : kd 1 = 5)) rfl (Nat.le_of_ble_eq_true rfl) (fun z22 M23 h => ?_)
                refine x_if_eq (tgt := 132) hG dX5_wordToken_126 (by decide) (fun hc24 => ?_) (fun hc24 => ?_)
                · have h := h.1 hc24
                  refine x_aload_n hG dX5_wordToken_132 rfl rfl ?_
                  refine x_ldcs (i := 8) hG dX5_wordToken_133 (by decide) rfl ?_
                  refine x_cVI1 hG dX5_wordToken_135 (fun ha => c_X5_spells ha h) gX5_wordToken_X5_spells rfl ⟨rfl, rfl⟩ hy_X5_spells ⟨Nat.le_of_ble_eq_true rfl, Nat.le_of_ble_eq_true rfl⟩ (kd_lt (rfl : kd 1 = 5) (by decide)) (fun _ => xc_5 (rfl : kd 1 = 5)) rfl (Nat.le_of_ble_eq_true rfl) (fun z25 M26 h => ?_)
                  refine x_if_eq (tgt := 144) hG dX5_wordToken_138 (by decide) (fun hc27 => ?_) (fun hc27 => ?_)
                  · have h := h.1 hc27
                    refine x_aload_n hG dX5_wordToken_144 rfl rfl ?_
                    refine x_ldcs (i := 9) hG dX5_wordToken_145 (by decide) rfl ?_
                    refine x_cVI1 hG dX5_wordToken_147 (fun ha => c_X5_spells ha h) gX5_wordToken_X5_spells rfl ⟨rfl, rfl⟩ hy_X5_spells ⟨Nat.le_of_ble_eq_true rfl, Nat.le_of_ble_eq_true rfl⟩ (kd_lt (rfl : kd 1 = 5) (by decide)) (fun _ => xc_5 (rfl : kd 1 = 5)) rfl (Nat.le_of_ble_eq_true rfl) (fun z28 M29 h => ?_)
                    refine x_if_eq (tgt := 156) hG dX5_wordToken_150 (by decide) (fun hc30 => ?_) (fun hc30 => ?_)
                    · have h := h.1 hc30
                      refine x_iconst (v := (1 : Int32)) hG dX5_wordToken_156 (by decide) ?_
                      exact x_iret hG hQ dX5_wordToken_157 rfl h
                    · have h := h.2 hc30
                      refine x_bipush (v := (13 : Int32)) hG dX5_wordToken_153 (by decide) ?_
                      exact x_iret hG hQ dX5_wordToken_155 rfl h
                  · have h := h.2 hc27
                    refine x_bipush (v := (12 : Int32)) hG dX5_wordToken_141 (by decide) ?_
                    exact x_iret hG hQ dX5_wordToken_143 rfl h
                · have h := h.2 hc24
                  refine x_bipush (v := (11 : Int32)) hG dX5_wordToken_129 (by decide) ?_
                  exact x_iret hG hQ dX5_wordToken_131 rfl h
              · have h := h.2 hc21
                refine x_bipush (v := (10 : Int32)) hG dX5_wordToken_117 (by decide) ?_
                exact x_iret hG hQ dX5_wordToken_119 rfl h
            · have h := h.2 hc18
              refine x_bipush (v := (9 : Int32)) hG dX5_wordToken_105 (by decide) ?_
              exact x_iret hG hQ dX5_wordToken_107 rfl h
          · have h := h.2 hc15
            refine x_bipush (v := (8 : Int32)) hG dX5_wordToken_93 (by decide) ?_
            exact x_iret hG hQ dX5_wordToken_95 rfl h
        · have h := h.2 hc12
          refine x_bipush (v := (7 : Int32)) hG dX5_wordToken_81 (by decide) ?_
          exact x_iret hG hQ dX5_wordToken_83 rfl h
      · have h := h.2 hc9
        refine x_bipush (v := (6 : Int32)) hG dX5_wordToken_69 (by decide) ?_
        exact x_iret hG hQ dX5_wordToken_71 rfl h
    · have h := h.2 hc6
      refine x_iconst (v := (5 : Int32)) hG dX5_wordToken_58 (by decide) ?_
      exact x_iret hG hQ dX5_wordToken_59 rfl h
  · have h := h.2 hc3
    refine x_iconst (v := (4 : Int32)) hG dX5_wordToken_47 (by decide) ?_
    exact x_iret hG hQ dX5_wordToken_48 rfl h
set_option maxRecDepth 100000 in
set_option maxHeartbeats 4000000 in
theorem k_X5_wordToken_0 {G : xG} {post : Int32 → xMem → Prop} (hG : xOk G cX5_wordToken RX5 wsX5_wordToken rm_X5_wordToken) (hQ : xRetI G post .int) : ∀ (M : xMem), xlp1 (b_X5_wordToken_0 post) M → xW G M [some (.ref (xa G 1))] [] 0 := by
  refine xlp1_W (W := fun M => xW G M [some (.ref (xa G 1))] [] 0) (fun r0 hr0 => ?_)
  intro M h
  unfold b_X5_wordToken_0 at h
  refine x_aload_n hG dX5_wordToken_0 rfl rfl ?_
  refine x_get_5_2 hG dX5_wordToken_1 (rfl : kd 1 = 5) hin_X5_wordToken_X5 (List.mem_of_getElem? (i := 1) rfl) ?_
  refine x_aload_n hG dX5_wordToken_4 rfl rfl ?_
  refine x_get_5_0 hG dX5_wordToken_5 (rfl : kd 1 = 5) hin_X5_wordToken_X5 (List.mem_of_getElem? (i := 2) rfl) ?_
  refine x_get_7_1 hG dX5_wordToken_8 (kf_5_0 (rfl : kd 1 = 5)).1 hin_X5_wordToken_X7 (List.mem_of_getElem? (i := 3) rfl) ?_
  refine x_icmp_ge (tgt := 38) hG dX5_wordToken_11 (by decide) (fun hc1 => ?_) (fun hc1 => ?_)
  · have h := h.1 hc1
    refine x_keep [true] rfl ?_
    exact k_X5_wordToken_38 hG hQ _ h
  · have h := h.2 hc1
    refine x_aload_n hG dX5_wordToken_14 rfl rfl ?_
    refine x_aload_n hG dX5_wordToken_15 rfl rfl ?_
    refine x_get_5_2 hG dX5_wordToken_16 (rfl : kd 1 = 5) hin_X5_wordToken_X5 (List.mem_of_getElem? (i := 1) rfl) ?_
    refine x_cVI1 hG dX5_wordToken_19 (fun ha => c_X5_isLetter ha h) gX5_wordToken_X5_isLetter rfl ⟨rfl, rfl⟩ hy_X5_isLetter ⟨Nat.le_of_ble_eq_true rfl, Nat.le_of_ble_eq_true rfl⟩ (kd_lt (rfl : kd 1 = 5) (by decide)) (fun _ => xc_5 (rfl : kd 1 = 5)) rfl (Nat.le_of_ble_eq_true rfl) (fun z2 M3 h => ?_)
    refine x_if_eq (tgt := 38) hG dX5_wordToken_22 (by decide) (fun hc4 => ?_) (fun hc4 => ?_)
    · have h := h.1 hc4
      refine x_keep [true] rfl ?_
      exact k_X5_wordToken_38 hG hQ _ h
    · have h := h.2 hc4
      refine x_aload_n hG dX5_wordToken_25 rfl rfl ?_
      refine x_dup hG dX5_wordToken_26 rfl ?_
      refine x_get_5_2 hG dX5_wordToken_27 (rfl : kd 1 = 5) hin_X5_wordToken_X5 (List.mem_of_getElem? (i := 1) rfl) ?_
      refine x_iconst (v := (1 : Int32)) hG dX5_wordToken_30 (by decide) ?_
      refine x_iadd hG dX5_wordToken_31 ?_
      have h := h _ rfl
      refine x_put_5_2 hG dX5_wordToken_32 (rfl : kd 1 = 5) hin_X5_wordToken_X5 (List.mem_of_getElem? (i := 1) rfl) ?_
      refine x_goto (tgt := 0) hG dX5_wordToken_35 (by decide) ?_
      refine x_keep [true] rfl ?_
      exact hr0 _ h
set_option maxRecDepth 100000 in
set_option maxHeartbeats 4000000 in
theorem c_X5_wordToken {l : Launch} {a : Nat → Nat} {M : xMem} {post : Int32 → xMem → Prop} (ha : xInj a) (h : w_X5_wordToken M post) : ∀ D cs sz, xMetI l yX5_wordToken wsX5_wordToken rm_X5_wordToken D a cs sz M [.ref (a 1)] post := by
  intro D cs sz
  unfold w_X5_wordToken at h
  refine x_metI (ty := .int) [some (.ref (a 1))] (by decide) rfl rfl (Nat.le_of_ble_eq_true rfl) rfl rfl ha D cs sz rfl (fun G e1 e2 hG hQ => ?_)
  subst e1
  subst e2
  refine x_keep [true] rfl ?_
  exact k_X5_wordToken_0 hG hQ _ h
abbrev rm_X5_isDigit : Room := { frames := 0, cells := 0, slots := 0, locals := 0 }
theorem hy_X5_isDigit : yX5_isDigit.cls = RX5 ∧ yX5_isDigit.cls ≠ "java/lang/invoke/MethodHandle" ∧ yX5_isDigit.cls ≠ "java/lang/invoke/VarHandle" ∧ (parseMethodDescriptor yX5_isDigit.desc).map (fun d => d.parameters.length) = some 1 := by decide +kernel
theorem hin_X5_isDigit_X5 : ∀ w ∈ wsX50, w ∈ wsX5_isDigit := fun _ h => List.mem_cons_of_mem _ (List.mem_append_left _ (List.mem_append_right _ h))
theorem hin_X5_isDigit_X7 : ∀ w ∈ wsX70, w ∈ wsX5_isDigit := fun _ h => List.mem_cons_of_mem _ (List.mem_append_right _ h)
set_option maxRecDepth 100000 in
set_option maxHeartbeats 4000000 in
theorem c_X5_isDigit {l : Launch} {a : Nat → Nat} {M : xMem} {p1 : Int32} {post : Int32 → xMem → Prop} (ha : xInj a) (h : w_X5_isDigit M p1 post) : ∀ D cs sz, xMetI l yX5_isDigit wsX5_isDigit rm_X5_isDigit D a cs sz M [.ref (a 1), .int p1] post := by
  intro D cs sz
  unfold w_X5_isDigit at h
  refine x_metI (ty := .boolean) [some (.ref (a 1)), some (.int p1)] (by decide) rfl rfl (Nat.le_of_ble_eq_true rfl) rfl rfl ha D cs sz rfl (fun G e1 e2 hG hQ => ?_)
  subst e1
  subst e2
  refine x_aload_n hG dX5_isDigit_0 rfl rfl ?_
  refine x_get_5_0 hG dX5_isDigit_1 (rfl : kd 1 = 5) hin_X5_isDigit_X5 (List.mem_of_getElem? (i := 1) rfl) ?_
  refine x_get_7_0 hG dX5_isDigit_4 (kf_5_0 (rfl : kd 1 = 5)).1 hin_X5_isDigit_X7 (List.mem_of_getElem? (i := 2) rfl) ?_
  refine x_iload_n hG dX5_isDigit_7 rfl rfl ?_
  obtain ⟨hi1, h⟩ := h
  refine x_iaload hG dX5_isDigit_8 (kf_7_0 (kf_5_0 (rfl : kd 1 = 5)).1).1 (x_inE (kf_7_0 (kf_5_0 (rfl : kd 1 = 5)).1).2 hi1) ?_
  refine x_bipush (v := (48 : Int32)) hG dX5_isDigit_9 (by decide) ?_
  refine x_icmp_lt (tgt := 32) hG dX5_isDigit_11 (by decide) (fun hc2 => ?_) (fun hc2 => ?_)
  · have h := h.1 hc2
    refine x_iconst (v := (0 : Int32)) hG dX5_isDigit_32 (by decide) ?_
    exact x_iret hG hQ dX5_isDigit_33 rfl h
  · have h := h.2 hc2
    refine x_aload_n hG dX5_isDigit_14 rfl rfl ?_
    refine x_get_5_0 hG dX5_isDigit_15 (rfl : kd 1 = 5) hin_X5_isDigit_X5 (List.mem_of_getElem? (i := 1) rfl) ?_
    refine x_get_7_0 hG dX5_isDigit_18 (kf_5_0 (rfl : kd 1 = 5)).1 hin_X5_isDigit_X7 (List.mem_of_getElem? (i := 2) rfl) ?_
    refine x_iload_n hG dX5_isDigit_21 rfl rfl ?_
    refine x_iaload hG dX5_isDigit_22 (kf_7_0 (kf_5_0 (rfl : kd 1 = 5)).1).1 (x_inE (kf_7_0 (kf_5_0 (rfl : kd 1 = 5)).1).2 hi1) ?_
    refine x_bipush (v := (57 : Int32)) hG dX5_isDigit_23 (by decide) ?_
    refine x_icmp_gt (tgt := 32) hG dX5_isDigit_25 (by decide) (fun hc3 => ?_) (fun hc3 => ?_)
    · have h := h.1 hc3
      refine x_iconst (v := (0 : Int32)) hG dX5_isDigit_32 (by decide) ?_
      exact x_iret hG hQ dX5_isDigit_33 rfl h
    · have h := h.2 hc3
      refine x_iconst (v := (1 : Int32)) hG dX5_isDigit_28 (by decide) ?_
      refine x_goto (tgt := 33) hG dX5_isDigit_29 (by decide) ?_
      exact x_iret hG hQ dX5_isDigit_33 rfl h
abbrev rm_X5_numberToken : Room := { frames := 1, cells := 0, slots := 0, locals := 21 }
theorem hy_X5_numberToken : yX5_numberToken.cls = RX5 ∧ yX5_numberToken.cls ≠ "java/lang/invoke/MethodHandle" ∧ yX5_numberToken.cls ≠ "java/lang/invoke/VarHandle" ∧ (parseMethodDescriptor yX5_numberToken.desc).map (fun d => d.parameters.length) = some 0 := by decide +kernel
theorem hin_X5_numberToken_X5 : ∀ w ∈ wsX50, w ∈ wsX5_numberToken := fun _ h => List.mem_cons_of_mem _ (List.mem_append_left _ (List.mem_append_right _ h))
theorem hin_X5_numberToken_X7 : ∀ w ∈ wsX70, w ∈ wsX5_numberToken := fun _ h => List.mem_cons_of_mem _ (List.mem_append_right _ h)
set_option maxRecDepth 100000 in
set_option maxHeartbeats 4000000 in
theorem k_X5_numberToken_128 {G : xG} {post : Int32 → xMem → Prop} (hG : xOk G cX5_numberToken RX5 wsX5_numberToken rm_X5_numberToken) (hQ : xRetI G post .int) : ∀ (M : xMem), b_X5_numberToken_128 post M → xW G M [none, none] [] 128 := by
  intro M h
  unfold b_X5_numberToken_128 at h
  refine x_iconst (v := (1 : Int32)) hG dX5_numberToken_128 (by decide) ?_
  refine x_goto (tgt := 133) hG dX5_numberToken_129 (by decide) ?_
  exact x_iret hG hQ dX5_numberToken_133 rfl h
set_option maxRecDepth 100000 in
set_option maxHeartbeats 4000000 in
theorem k_X5_numberToken_114 {G : xG} {post : Int32 → xMem → Prop} (hG : xOk G cX5_numberToken RX5 wsX5_numberToken rm_X5_numberToken) (hQ : xRetI G post .int) : ∀ (M : xMem) (s0 : Int32), b_X5_numberToken_114 post M s0 → xW G M [some (.ref (xa G 1)), none] [.int s0] 114 := by
  intro M s0 h
  unfold b_X5_numberToken_114 at h
  refine x_istore_n hG dX5_numberToken_114 rfl (Nat.le_of_ble_eq_true rfl) rfl ?_
  refine x_iload_n hG dX5_numberToken_115 rfl rfl ?_
  refine x_if_ne (tgt := 128) hG dX5_numberToken_116 (by decide) (fun hc1 => ?_) (fun hc1 => ?_)
  · have h := h.1 hc1
    refine x_keep [false, false] rfl ?_
    exact k_X5_numberToken_128 hG hQ _ h
  · have h := h.2 hc1
    refine x_aload_n hG dX5_numberToken_119 rfl rfl ?_
    refine x_get_5_5 hG dX5_numberToken_120 (rfl : kd 1 = 5) hin_X5_numberToken_X5 (List.mem_of_getElem? (i := 1) rfl) ?_
    refine x_bipush (v := (99 : Int32)) hG dX5_numberToken_123 (by decide) ?_
    refine x_icmp_le (tgt := 132) hG dX5_numberToken_125 (by decide) (fun hc2 => ?_) (fun hc2 => ?_)
    · have h := h.1 hc2
      refine x_iconst (v := (2 : Int32)) hG dX5_numberToken_132 (by decide) ?_
      exact x_iret hG hQ dX5_numberToken_133 rfl h
    · have h := h.2 hc2
      refine x_keep [false, false] rfl ?_
      exact k_X5_numberToken_128 hG hQ _ h
set_option maxRecDepth 100000 in
set_option maxHeartbeats 4000000 in
theorem k_X5_numberToken_113 {G : xG} {post : Int32 → xMem → Prop} (hG : xOk G cX5_numberToken RX5 wsX5_numberToken rm_X5_numberToken) (hQ : xRetI G post .int) : ∀ (M : xMem), b_X5_numberToken_113 post M → xW G M [some (.ref (xa G 1)), none] [] 113 := by
  intro M h
  unfold b_X5_numberToken_113 at h
  refine x_iconst (v := (0 : Int32)) hG dX5_numberToken_113 (by decide) ?_
  refine x_keep [true, false] rfl ?_
  exact k_X5_numberToken_114 hG hQ _ _ h
set_option maxRecDepth 100000 in
set_option maxHeartbeats 4000000 in
theorem k_X5_numberToken_79 {G : xG} {post : Int32 → xMem → Prop} (hG : xOk G cX5_numberToken RX5 wsX5_numberToken rm_X5_numberToken) (hQ : xRetI G post .int) : ∀ (M : xMem), b_X5_numberToken_79 post M → xW G M [some (.ref (xa G 1)), none] [] 79 := by
  intro M h
  unfold b_X5_numberToken_79 at h
  refine x_aload_n hG dX5_numberToken_79 rfl rfl ?_
  refine x_get_5_0 hG dX5_numberToken_80 (rfl : kd 1 = 5) hin_X5_numberToken_X5 (List.mem_of_getElem? (i := 3) rfl) ?_
  refine x_get_7_0 hG dX5_numberToken_83 (kf_5_0 (rfl : kd 1 = 5)).1 hin_X5_numberToken_X7 (List.mem_of_getElem? (i := 5) rfl) ?_
  refine x_aload_n hG dX5_numberToken_86 rfl rfl ?_
  refine x_get_5_3 hG dX5_numberToken_87 (rfl : kd 1 = 5) hin_X5_numberToken_X5 (List.mem_of_getElem? (i := 6) rfl) ?_
  obtain ⟨hi1, h⟩ := h
  refine x_iaload hG dX5_numberToken_90 (kf_7_0 (kf_5_0 (rfl : kd 1 = 5)).1).1 (x_inE (kf_7_0 (kf_5_0 (rfl : kd 1 = 5)).1).2 hi1) ?_
  refine x_bipush (v := (48 : Int32)) hG dX5_numberToken_91 (by decide) ?_
  refine x_icmp_ne (tgt := 113) hG dX5_numberToken_93 (by decide) (fun hc2 => ?_) (fun hc2 => ?_)
  · have h := h.1 hc2
    refine x_keep [true, false] rfl ?_
    exact k_X5_numberToken_113 hG hQ _ h
  · have h := h.2 hc2
    refine x_aload_n hG dX5_numberToken_96 rfl rfl ?_
    refine x_get_5_2 hG dX5_numberToken_97 (rfl : kd 1 = 5) hin_X5_numberToken_X5 (List.mem_of_getElem? (i := 2) rfl) ?_
    refine x_aload_n hG dX5_numberToken_100 rfl rfl ?_
    refine x_get_5_3 hG dX5_numberToken_101 (rfl : kd 1 = 5) hin_X5_numberToken_X5 (List.mem_of_getElem? (i := 6) rfl) ?_
    refine x_isub hG dX5_numberToken_104 ?_
    refine x_iconst (v := (1 : Int32)) hG dX5_numberToken_105 (by decide) ?_
    refine x_icmp_le (tgt := 113) hG dX5_numberToken_106 (by decide) (fun hc3 => ?_) (fun hc3 => ?_)
    · have h := h.1 hc3
      refine x_keep [true, false] rfl ?_
      exact k_X5_numberToken_113 hG hQ _ h
    · have h := h.2 hc3
      refine x_iconst (v := (1 : Int32)) hG dX5_numberToken_109 (by decide) ?_
      refine x_goto (tgt := 114) hG dX5_numberToken_110 (by decide) ?_
      refine x_keep [true, false] rfl ?_
      exact k_X5_numberToken_114 hG hQ _ _ h
set_option maxRecDepth 100000 in
set_option maxHeartbeats 4000000 in
theorem k_X5_numberToken_66 {G : xG} {post : Int32 → xMem → Prop} (hG : xOk G cX5_numberToken RX5 wsX5_numberToken rm_X5_numberToken) (hQ : xRetI G post .int) {r5 : xMem → Prop} (hr5 : ∀ (M : xMem), r5 M → xW G M [some (.ref (xa G 1)), none] [] 5) : ∀ (M : xMem), b_X5_numberToken_66 post r5 M → xW G M [some (.ref (xa G 1)), none] [] 66 := by
  intro M h
  unfold b_X5_numberToken_66 at h
  refine x_aload_n hG dX5_numberToken_66 rfl rfl ?_
  refine x_dup hG dX5_numberToken_67 rfl ?_
  refine x_get_5_2 hG dX5_numberToken_68 (rfl : kd 1 = 5) hin_X5_numberToken_X5 (List.mem_of_getElem? (i := 2) rfl) ?_
  refine x_iconst (v := (1 : Int32)) hG dX5_numberToken_71 (by decide) ?_
  refine x_iadd hG dX5_numberToken_72 ?_
  have h := h _ rfl
  refine x_put_5_2 hG dX5_numberToken_73 (rfl : kd 1 = 5) hin_X5_numberToken_X5 (List.mem_of_getElem? (i := 2) rfl) ?_
  refine x_goto (tgt := 5) hG dX5_numberToken_76 (by decide) ?_
  refine x_keep [true, false] rfl ?_
  exact hr5 _ h
set_option maxRecDepth 100000 in
set_option maxHeartbeats 4000000 in
theorem k_X5_numberToken_5 {G : xG} {post : Int32 → xMem → Prop} (hG : xOk G cX5_numberToken RX5 wsX5_numberToken rm_X5_numberToken) (hQ : xRetI G post .int) : ∀ (M : xMem), xlp1 (b_X5_numberToken_5 post) M → xW G M [some (.ref (xa G 1)), none] [] 5 := by
  refine xlp1_W (W := fun M => xW G M [some (.ref (xa G 1)), none] [] 5) (fun r5 hr5 => ?_)
  intro M h
  unfold b_X5_numberToken_5 at h
  refine x_aload_n hG dX5_numberToken_5 rfl rfl ?_
  refine x_get_5_2 hG dX5_numberToken_6 (rfl : kd 1 = 5) hin_X5_numberToken_X5 (List.mem_of_getElem? (i := 2) rfl) ?_
  refine x_aload_n hG dX5_numberToken_9 rfl rfl ?_
  refine x_get_5_0 hG dX5_numberToken_10 (rfl : kd 1 = 5) hin_X5_numberToken_X5 (List.mem_of_getElem? (i := 3) rfl) ?_
  refine x_get_7_1 hG dX5_numberToken_13 (kf_5_0 (rfl : kd 1 = 5)).1 hin_X5_numberToken_X7 (List.mem_of_getElem? (i := 4) rfl) ?_
  refine x_icmp_ge (tgt := 79) hG dX5_numberToken_16 (by decide) (fun hc1 => ?_) (fun hc1 => ?_)
  · have h := h.1 hc1
    refine x_keep [true, false] rfl ?_
    exact k_X5_numberToken_79 hG hQ _ h
  · have h := h.2 hc1
    refine x_aload_n hG dX5_numberToken_19 rfl rfl ?_
    refine x_aload_n hG dX5_numberToken_20 rfl rfl ?_
    refine x_get_5_2 hG dX5_numberToken_21 (rfl : kd 1 = 5) hin_X5_numberToken_X5 (List.mem_of_getElem? (i := 2) rfl) ?_
    refine x_cVI1 hG dX5_numberToken_24 (fun ha => c_X5_isDigit ha h) gX5_numberToken_X5_isDigit rfl ⟨rfl, rfl⟩ hy_X5_isDigit ⟨Nat.le_of_ble_eq_true rfl, Nat.le_of_ble_eq_true rfl⟩ (kd_lt (rfl : kd 1 = 5) (by decide)) (fun _ => xc_5 (rfl : kd 1 = 5)) rfl (Nat.le_of_ble_eq_true rfl) (fun z2 M3 h => ?_)
    refine x_if_eq (tgt := 79) hG dX5_numberToken_27 (by decide) (fun hc4 => ?_) (fun hc4 => ?_)
    · have h := h.1 hc4
      refine x_keep [true, false] rfl ?_
      exact k_X5_numberToken_79 hG hQ _ h
    · have h := h.2 hc4
      refine x_aload_n hG dX5_numberToken_30 rfl rfl ?_
      refine x_get_5_5 hG dX5_numberToken_31 (rfl : kd 1 = 5) hin_X5_numberToken_X5 (List.mem_of_getElem? (i := 1) rfl) ?_
      refine x_bipush (v := (99 : Int32)) hG dX5_numberToken_34 (by decide) ?_
      refine x_icmp_gt (tgt := 66) hG dX5_numberToken_36 (by decide) (fun hc5 => ?_) (fun hc5 => ?_)
      · have h := h.1 hc5
        refine x_keep [true, false] rfl ?_
        exact k_X5_numberToken_66 hG hQ hr5 _ h
      · have h := h.2 hc5
        refine x_aload_n hG dX5_numberToken_39 rfl rfl ?_
        refine x_bipush (v := (10 : Int32)) hG dX5_numberToken_40 (by decide) ?_
        refine x_aload_n hG dX5_numberToken_42 rfl rfl ?_
        refine x_get_5_5 hG dX5_numberToken_43 (rfl : kd 1 = 5) hin_X5_numberToken_X5 (List.mem_of_getElem? (i := 1) rfl) ?_
        refine x_imul hG dX5_numberToken_46 ?_
        refine x_aload_n hG dX5_numberToken_47 rfl rfl ?_
        refine x_get_5_0 hG dX5_numberToken_48 (rfl : kd 1 = 5) hin_X5_numberToken_X5 (List.mem_of_getElem? (i := 3) rfl) ?_
        refine x_get_7_0 hG dX5_numberToken_51 (kf_5_0 (rfl : kd 1 = 5)).1 hin_X5_numberToken_X7 (List.mem_of_getElem? (i := 5) rfl) ?_
        refine x_aload_n hG dX5_numberToken_54 rfl rfl ?_
        refine x_get_5_2 hG dX5_numberToken_55 (rfl : kd 1 = 5) hin_X5_numberToken_X5 (List.mem_of_getElem? (i := 2) rfl) ?_
        obtain ⟨hi6, h⟩ := h
        refine x_iaload hG dX5_numberToken_58 (kf_7_0 (kf_5_0 (rfl : kd 1 = 5)).1).1 (x_inE (kf_7_0 (kf_5_0 (rfl : kd 1 = 5)).1).2 hi6) ?_
        refine x_iadd hG dX5_numberToken_59 ?_
        refine x_bipush (v := (48 : Int32)) hG dX5_numberToken_60 (by decide) ?_
        refine x_isub hG dX5_numberToken_62 ?_
        have h := h _ rfl
        refine x_put_5_5 hG dX5_numberToken_63 (rfl : kd 1 = 5) hin_X5_numberToken_X5 (List.mem_of_getElem? (i := 1) rfl) ?_
        refine x_keep [true, false] rfl ?_
        exact k_X5_numberToken_66 hG hQ hr5 _ h
set_option maxRecDepth 100000 in
set_option maxHeartbeats 4000000 in
theorem c_X5_numberToken {l : Launch} {a : Nat → Nat} {M : xMem} {post : Int32 → xMem → Prop} (ha : xInj a) (h : w_X5_numberToken M post) : ∀ D cs sz, xMetI l yX5_numberToken wsX5_numberToken rm_X5_numberToken D a cs sz M [.ref (a 1)] post := by
  intro D cs sz
  unfold w_X5_numberToken at h
  refine x_metI (ty := .int) [some (.ref (a 1)), none] (by decide) rfl rfl (Nat.le_of_ble_eq_true rfl) rfl rfl ha D cs sz rfl (fun G e1 e2 hG hQ => ?_)
  subst e1
  subst e2
  refine x_aload_n hG dX5_numberToken_0 rfl rfl ?_
  refine x_iconst (v := (0 : Int32)) hG dX5_numberToken_1 (by decide) ?_
  have h := h _ rfl
  refine x_put_5_5 hG dX5_numberToken_2 (rfl : kd 1 = 5) hin_X5_numberToken_X5 (List.mem_of_getElem? (i := 1) rfl) ?_
  refine x_keep [true, false] rfl ?_
  exact k_X5_numberToken_5 hG hQ _ h
abbrev rm_X5_nextToken : Room := { frames := 6, cells := 0, slots := 0, locals := 127 }
theorem hy_X5_nextToken : yX5_nextToken.cls = RX5 ∧ yX5_nextToken.cls ≠ "java/lang/invoke/MethodHandle" ∧ yX5_nextToken.cls ≠ "java/lang/invoke/VarHandle" ∧ (parseMethodDescriptor yX5_nextToken.desc).map (fun d => d.parameters.length) = some 0 := by decide +kernel
theorem hin_X5_nextToken_X5 : ∀ w ∈ wsX50, w ∈ wsX5_nextToken := fun _ h => List.mem_cons_of_mem _ (List.mem_append_left _ (List.mem_append_right _ h))
theorem hin_X5_nextToken_X7 : ∀ w ∈ wsX70, w ∈ wsX5_nextToken := fun _ h => List.mem_cons_of_mem _ (List.mem_append_right _ h)
set_option maxRecDepth 100000 in
set_option maxHeartbeats 4000000 in
theorem k_X5_nextToken_141 {G : xG} {post : xMem → Prop} (hG : xOk G cX5_nextToken RX5 wsX5_nextToken rm_X5_nextToken) (hQ : xRetV G post) : ∀ (M : xMem) (s1 : Int32), b_X5_nextToken_141 post M s1 → xW G M [some (.ref (xa G 1))] [.int s1, .ref (xa G 1)] 141 := by
  intro M s1 h
  unfold b_X5_nextToken_141 at h
  have h := h _ rfl
  refine x_put_5_4 hG dX5_nextToken_141 (rfl : kd 1 = 5) hin_X5_nextToken_X5 (List.mem_of_getElem? (i := 6) rfl) ?_
  refine x_aload_n hG dX5_nextToken_144 rfl rfl ?_
  refine x_dup hG dX5_nextToken_145 rfl ?_
  refine x_get_5_2 hG dX5_nextToken_146 (rfl : kd 1 = 5) hin_X5_nextToken_X5 (List.mem_of_getElem? (i := 1) rfl) ?_
  refine x_iconst (v := (1 : Int32)) hG dX5_nextToken_149 (by decide) ?_
  refine x_iadd hG dX5_nextToken_150 ?_
  have h := h _ rfl
  refine x_put_5_2 hG dX5_nextToken_151 (rfl : kd 1 = 5) hin_X5_nextToken_X5 (List.mem_of_getElem? (i := 1) rfl) ?_
  exact x_vret hG hQ dX5_nextToken_154 h
set_option maxRecDepth 100000 in
set_option maxHeartbeats 4000000 in
theorem k_X5_nextToken_44 {G : xG} {post : xMem → Prop} (hG : xOk G cX5_nextToken RX5 wsX5_nextToken rm_X5_nextToken) (hQ : xRetV G post) : ∀ (M : xMem), b_X5_nextToken_44 post M → xW G M [some (.ref (xa G 1))] [] 44 := by
  intro M h
  unfold b_X5_nextToken_44 at h
  refine x_aload_n hG dX5_nextToken_44 rfl rfl ?_
  refine x_aload_n hG dX5_nextToken_45 rfl rfl ?_
  refine x_get_5_2 hG dX5_nextToken_46 (rfl : kd 1 = 5) hin_X5_nextToken_X5 (List.mem_of_getElem? (i := 1) rfl) ?_
  have h := h _ rfl
  refine x_put_5_3 hG dX5_nextToken_49 (rfl : kd 1 = 5) hin_X5_nextToken_X5 (List.mem_of_getElem? (i := 5) rfl) ?_
  refine x_aload_n hG dX5_nextToken_52 rfl rfl ?_
  refine x_get_5_2 hG dX5_nextToken_53 (rfl : kd 1 = 5) hin_X5_nextToken_X5 (List.mem_of_getElem? (i := 1) rfl) ?_
  refine x_aload_n hG dX5_nextToken_56 rfl rfl ?_
  refine x_get_5_0 hG dX5_nextToken_57 (rfl : kd 1 = 5) hin_X5_nextToken_X5 (List.mem_of_getElem? (i := 2) rfl) ?_
  refine x_get_7_1 hG dX5_nextToken_60 (kf_5_0 (rfl : kd 1 = 5)).1 hin_X5_nextToken_X7 (List.mem_of_getElem? (i := 3) rfl) ?_
  refine x_icmp_lt (tgt := 74) hG dX5_nextToken_63 (by decide) (fun hc2 => ?_) (fun hc2 => ?_)
  · have h := h.1 hc2
    refine x_aload_n hG dX5_nextToken_74 rfl rfl ?_
    refine x_aload_n hG dX5_nextToken_75 rfl rfl ?_
    refine x_get_5_2 hG dX5_nextToken_76 (rfl : kd 1 = 5) hin_X5_nextToken_X5 (List.mem_of_getElem? (i := 1) rfl) ?_
    refine x_cVI1 hG dX5_nextToken_79 (fun ha => c_X5_isLetter ha h) gX5_nextToken_X5_isLetter rfl ⟨rfl, rfl⟩ hy_X5_isLetter ⟨Nat.le_of_ble_eq_true rfl, Nat.le_of_ble_eq_true rfl⟩ (kd_lt (rfl : kd 1 = 5) (by decide)) (fun _ => xc_5 (rfl : kd 1 = 5)) rfl (Nat.le_of_ble_eq_true rfl) (fun z3 M4 h => ?_)
    refine x_if_eq (tgt := 96) hG dX5_nextToken_82 (by decide) (fun hc5 => ?_) (fun hc5 => ?_)
    · have h := h.1 hc5
      refine x_aload_n hG dX5_nextToken_96 rfl rfl ?_
      refine x_aload_n hG dX5_nextToken_97 rfl rfl ?_
      refine x_get_5_2 hG dX5_nextToken_98 (rfl : kd 1 = 5) hin_X5_nextToken_X5 (List.mem_of_getElem? (i := 1) rfl) ?_
      refine x_cVI1 hG dX5_nextToken_101 (fun ha => c_X5_isDigit ha h) gX5_nextToken_X5_isDigit rfl ⟨rfl, rfl⟩ hy_X5_isDigit ⟨Nat.le_of_ble_eq_true rfl, Nat.le_of_ble_eq_true rfl⟩ (kd_lt (rfl : kd 1 = 5) (by decide)) (fun _ => xc_5 (rfl : kd 1 = 5)) rfl (Nat.le_of_ble_eq_true rfl) (fun z6 M7 h => ?_)
      refine x_if_eq (tgt := 118) hG dX5_nextToken_104 (by decide) (fun hc8 => ?_) (fun hc8 => ?_)
      · have h := h.1 hc8
        refine x_aload_n hG dX5_nextToken_118 rfl rfl ?_
        refine x_aload_n hG dX5_nextToken_119 rfl rfl ?_
        refine x_get_5_0 hG dX5_nextToken_120 (rfl : kd 1 = 5) hin_X5_nextToken_X5 (List.mem_of_getElem? (i := 2) rfl) ?_
        refine x_get_7_0 hG dX5_nextToken_123 (kf_5_0 (rfl : kd 1 = 5)).1 hin_X5_nextToken_X7 (List.mem_of_getElem? (i := 4) rfl) ?_
        refine x_aload_n hG dX5_nextToken_126 rfl rfl ?_
        refine x_get_5_2 hG dX5_nextToken_127 (rfl : kd 1 = 5) hin_X5_nextToken_X5 (List.mem_of_getElem? (i := 1) rfl) ?_
        obtain ⟨hi9, h⟩ := h
        refine x_iaload hG dX5_nextToken_130 (kf_7_0 (kf_5_0 (rfl : kd 1 = 5)).1).1 (x_inE (kf_7_0 (kf_5_0 (rfl : kd 1 = 5)).1).2 hi9) ?_
        refine x_bipush (v := (59 : Int32)) hG dX5_nextToken_131 (by decide) ?_
        refine x_icmp_ne (tgt := 140) hG dX5_nextToken_133 (by decide) (fun hc10 => ?_) (fun hc10 => ?_)
        · have h := h.1 hc10
          refine x_iconst (v := (1 : Int32)) hG dX5_nextToken_140 (by decide) ?_
          refine x_keep [true] rfl ?_
          exact k_X5_nextToken_141 hG hQ _ _ h
        · have h := h.2 hc10
          refine x_iconst (v := (3 : Int32)) hG dX5_nextToken_136 (by decide) ?_
          refine x_goto (tgt := 141) hG dX5_nextToken_137 (by decide) ?_
          refine x_keep [true] rfl ?_
          exact k_X5_nextToken_141 hG hQ _ _ h
      · have h := h.2 hc8
        refine x_aload_n hG dX5_nextToken_107 rfl rfl ?_
        refine x_aload_n hG dX5_nextToken_108 rfl rfl ?_
        refine x_cVI0 hG dX5_nextToken_109 (fun ha => c_X5_numberToken ha h) gX5_nextToken_X5_numberToken rfl ⟨rfl, rfl⟩ hy_X5_numberToken ⟨Nat.le_of_ble_eq_true rfl, Nat.le_of_ble_eq_true rfl⟩ (kd_lt (rfl : kd 1 = 5) (by decide)) (fun _ => xc_5 (rfl : kd 1 = 5)) rfl (Nat.le_of_ble_eq_true rfl) (fun z11 M12 h => ?_)
        have h := h _ rfl
        refine x_put_5_4 hG dX5_nextToken_112 (rfl : kd 1 = 5) hin_X5_nextToken_X5 (List.mem_of_getElem? (i := 6) rfl) ?_
        refine x_goto (tgt := 154) hG dX5_nextToken_115 (by decide) ?_
        exact x_vret hG hQ dX5_nextToken_154 h
    · have h := h.2 hc5
      refine x_aload_n hG dX5_nextToken_85 rfl rfl ?_
      refine x_aload_n hG dX5_nextToken_86 rfl rfl ?_
      refine x_cVI0 hG dX5_nextToken_87 (fun ha => c_X5_wordToken ha h) gX5_nextToken_X5_wordToken rfl ⟨rfl, rfl⟩ hy_X5_wordToken ⟨Nat.le_of_ble_eq_true rfl, Nat.le_of_ble_eq_true rfl⟩ (kd_lt (rfl : kd 1 = 5) (by decide)) (fun _ => xc_5 (rfl : kd 1 = 5)) rfl (Nat.le_of_ble_eq_true rfl) (fun z14 M15 h => ?_)
      have h := h _ rfl
      refine x_put_5_4 hG dX5_nextToken_90 (rfl : kd 1 = 5) hin_X5_nextToken_X5 (List.mem_of_getElem? (i := 6) rfl) ?_
      refine x_goto (tgt := 154) hG dX5_nextToken_93 (by decide) ?_
      exact x_vret hG hQ dX5_nextToken_154 h
  · have h := h.2 hc2
    refine x_aload_n hG dX5_nextToken_66 rfl rfl ?_
    refine x_iconst (v := (0 : Int32)) hG dX5_nextToken_67 (by decide) ?_
    have h := h _ rfl
    refine x_put_5_4 hG dX5_nextToken_68 (rfl : kd 1 = 5) hin_X5_nextToken_X5 (List.mem_of_getElem? (i := 6) rfl) ?_
    refine x_goto (tgt := 154) hG dX5_nextToken_71 (by decide) ?_
    exact x_vret hG hQ dX5_nextToken_154 h
set_option maxRecDepth 100000 in
set_option maxHeartbeats 4000000 in
theorem k_X5_nextToken_0 {G : xG} {post : xMem → Prop} (hG : xOk G cX5_nextToken RX5 wsX5_nextToken rm_X5_nextToken) (hQ : xRetV G post) : ∀ (M : xMem), xlp1 (b_X5_nextToken_0 post) M → xW G M [some (.ref (xa G 1))] [] 0 := by
  refine xlp1_W (W := fun M => xW G M [some (.ref (xa G 1))] [] 0) (fun r0 hr0 => ?_)
  intro M h
  unfold b_X5_nextToken_0 at h
  refine x_aload_n hG dX5_nextToken_0 rfl rfl ?_
  refine x_get_5_2 hG dX5_nextToken_1 (rfl : kd 1 = 5) hin_X5_nextToken_X5 (List.mem_of_getElem? (i := 1) rfl) ?_
  refine x_aload_n hG dX5_nextToken_4 rfl rfl ?_
  refine x_get_5_0 hG dX5_nextToken_5 (rfl : kd 1 = 5) hin_X5_nextToken_X5 (List.mem_of_getElem? (i := 2) rfl) ?_
  refine x_get_7_1 hG dX5_nextToken_8 (kf_5_0 (rfl : kd 1 = 5)).1 hin_X5_nextToken_X7 (List.mem_of_getElem? (i := 3) rfl) ?_
  refine x_icmp_ge (tgt := 44) hG dX5_nextToken_11 (by decide) (fun hc1 => ?_) (fun hc1 => ?_)
  · have h := h.1 hc1
    refine x_keep [true] rfl ?_
    exact k_X5_nextToken_44 hG hQ _ h
  · have h := h.2 hc1
    refine x_aload_n hG dX5_nextToken_14 rfl rfl ?_
    refine x_get_5_0 hG dX5_nextToken_15 (rfl : kd 1 = 5) hin_X5_nextToken_X5 (List.mem_of_getElem? (i := 2) rfl) ?_
    refine x_get_7_0 hG dX5_nextToken_18 (kf_5_0 (rfl : kd 1 = 5)).1 hin_X5_nextToken_X7 (List.mem_of_getElem? (i := 4) rfl) ?_
    refine x_aload_n hG dX5_nextToken_21 rfl rfl ?_
    refine x_get_5_2 hG dX5_nextToken_22 (rfl : kd 1 = 5) hin_X5_nextToken_X5 (List.mem_of_getElem? (i := 1) rfl) ?_
    obtain ⟨hi2, h⟩ := h
    refine x_iaload hG dX5_nextToken_25 (kf_7_0 (kf_5_0 (rfl : kd 1 = 5)).1).1 (x_inE (kf_7_0 (kf_5_0 (rfl : kd 1 = 5)).1).2 hi2) ?_
    refine x_bipush (v := (32 : Int32)) hG dX5_nextToken_26 (by decide) ?_
    refine x_icmp_ne (tgt := 44) hG dX5_nextToken_28 (by decide) (fun hc3 => ?_) (fun hc3 => ?_)
    · have h := h.1 hc3
      refine x_keep [true] rfl ?_
      exact k_X5_nextToken_44 hG hQ _ h
    · have h := h.2 hc3
      refine x_aload_n hG dX5_nextToken_31 rfl rfl ?_
      refine x_dup hG dX5_nextToken_32 rfl ?_
      refine x_get_5_2 hG dX5_nextToken_33 (rfl : kd 1 = 5) hin_X5_nextToken_X5 (List.mem_of_getElem? (i := 1) rfl) ?_
      refine x_iconst (v := (1 : Int32)) hG dX5_nextToken_36 (by decide) ?_
      refine x_iadd hG dX5_nextToken_37 ?_
      have h := h _ rfl
      refine x_put_5_2 hG dX5_nextToken_38 (rfl : kd 1 = 5) hin_X5_nextToken_X5 (List.mem_of_getElem? (i := 1) rfl) ?_
      refine x_goto (tgt := 0) hG dX5_nextToken_41 (by decide) ?_
      refine x_keep [true] rfl ?_
      exact hr0 _ h
set_option maxRecDepth 100000 in
set_option maxHeartbeats 4000000 in
theorem c_X5_nextToken {l : Launch} {a : Nat → Nat} {M : xMem} {post : xMem → Prop} (ha : xInj a) (h : w_X5_nextToken M post) : ∀ D cs sz, xMetV l yX5_nextToken wsX5_nextToken rm_X5_nextToken D a cs sz M [.ref (a 1)] post := by
  intro D cs sz
  unfold w_X5_nextToken at h
  refine x_metV [some (.ref (a 1))] (by decide) rfl rfl (Nat.le_of_ble_eq_true rfl) rfl rfl ha D cs sz rfl (fun G e1 e2 hG hQ => ?_)
  subst e1
  subst e2
  refine x_keep [true] rfl ?_
  exact k_X5_nextToken_0 hG hQ _ h
abbrev rm_X8_within : Room := { frames := 0, cells := 0, slots := 0, locals := 0 }
theorem hy_X8_within : yX8_within.cls ≠ "java/lang/invoke/MethodHandle" ∧ yX8_within.cls ≠ "java/lang/invoke/VarHandle" ∧ (parseMethodDescriptor yX8_within.desc).map (fun d => d.parameters.length) = some 3 := by decide +kernel
set_option maxRecDepth 100000 in
set_option maxHeartbeats 4000000 in
theorem c_X8_within {l : Launch} {a : Nat → Nat} {M : xMem} {p0 : Int32} {p1 : Int32} {p2 : Int32} {post : Int32 → xMem → Prop} (ha : xInj a) (h : w_X8_within M p0 p1 p2 post) : ∀ D cs sz, xMetI l yX8_within wsX8_within rm_X8_within D a cs sz M [.int p0, .int p1, .int p2] post := by
  intro D cs sz
  unfold w_X8_within at h
  refine x_metI (ty := .boolean) [some (.int p0), some (.int p1), some (.int p2)] (by decide) rfl rfl (Nat.le_of_ble_eq_true rfl) rfl rfl ha D cs sz rfl (fun G e1 e2 hG hQ => ?_)
  subst e1
  subst e2
  refine x_iload_n hG dX8_within_0 rfl rfl ?_
  refine x_iload_n hG dX8_within_1 rfl rfl ?_
  refine x_icmp_lt (tgt := 14) hG dX8_within_2 (by decide) (fun hc1 => ?_) (fun hc1 => ?_)
  · have h := h.1 hc1
    refine x_iconst (v := (0 : Int32)) hG dX8_within_14 (by decide) ?_
    exact x_iret hG hQ dX8_within_15 rfl h
  · have h := h.2 hc1
    refine x_iload_n hG dX8_within_5 rfl rfl ?_
    refine x_iload_n hG dX8_within_6 rfl rfl ?_
    refine x_icmp_gt (tgt := 14) hG dX8_within_7 (by decide) (fun hc2 => ?_) (fun hc2 => ?_)
    · have h := h.1 hc2
      refine x_iconst (v := (0 : Int32)) hG dX8_within_14 (by decide) ?_
      exact x_iret hG hQ dX8_within_15 rfl h
    · have h := h.2 hc2
      refine x_iconst (v := (1 : Int32)) hG dX8_within_10 (by decide) ?_
      refine x_goto (tgt := 15) hG dX8_within_11 (by decide) ?_
      exact x_iret hG hQ dX8_within_15 rfl h
