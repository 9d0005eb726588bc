abbrev rm_X9_worker : Room := { frames := 2, cells := 0, slots := 0, locals := 43 }
theorem hy_X9_worker : yX9_worker.cls = RX9 ∧ yX9_worker.cls ≠ "java/lang/invoke/MethodHandle" ∧ yX9_worker.cls ≠ "java/lang/invoke/VarHandle" ∧ (parseMethodDescriptor yX9_worker.desc).map (fun d => d.parameters.length) = some 2 := by decide +kernel
theorem hin_X9_worker_X9 : ∀ w ∈ wsX90, w ∈ wsX9_worker := fun _ h => List.mem_cons_of_mem _ (List.mem_append_right _ h)
set_option maxRecDepth 100000 in
set_option maxHeartbeats 4000000 in
theorem c_X9_worker {l : Launch} {a : Nat → Nat} {M : xMem} {p1 : Int32} {p2 : Int32} {post : Int32 → xMem → Prop} (ha : xInj a) (h : w_X9_worker M p1 p2 post) : ∀ D cs sz, xMetI l yX9_worker wsX9_worker rm_X9_worker D a cs sz M [.ref (a 81), .int p1, .int p2] post := by
  intro D cs sz
  unfold w_X9_worker at h
  refine x_metI (ty := .int) [some (.ref (a 81)), some (.int p1), some (.int p2)] (by decide) rfl rfl (Nat.le_of_ble_eq_true rfl) rfl rfl ha D cs sz rfl (fun G e1 e2 hG hQ => ?_)
  subst e1
  subst e2
  refine x_aload_n hG dX9_worker_0 rfl rfl ?_
  refine x_iconst (v := (0 : Int32)) hG dX9_worker_1 (by decide) ?_
  have h := h _ rfl
  refine x_put_9_0 hG dX9_worker_2 (rfl : kd 81 = 9) hin_X9_worker_X9 (List.mem_of_getElem? (i := 1) rfl) ?_
  refine x_aload_n hG dX9_worker_5 rfl rfl ?_
  refine x_iload_n hG dX9_worker_6 rfl rfl ?_
  refine x_cVI1 hG dX9_worker_7 (fun ha => c_X9_isWorker ha h) gX9_worker_X9_isWorker rfl ⟨rfl, rfl⟩ hy_X9_isWorker ⟨Nat.le_of_ble_eq_true rfl, Nat.le_of_ble_eq_true rfl⟩ (kd_lt (rfl : kd 81 = 9) (by decide)) (fun _ => xc_9 (rfl : kd 81 = 9)) rfl (Nat.le_of_ble_eq_true rfl) (fun z2 M3 h => ?_)
  refine x_if_eq (tgt := 35) hG dX9_worker_10 (by decide) (fun hc4 => ?_) (fun hc4 => ?_)
  · have h := h.1 hc4
    refine x_iconst (v := (-1 : Int32)) hG dX9_worker_35 (by decide) ?_
    exact x_iret hG hQ dX9_worker_36 rfl h
  · have h := h.2 hc4
    refine x_iload_n hG dX9_worker_13 rfl rfl ?_
    refine x_iconst (v := (0 : Int32)) hG dX9_worker_14 (by decide) ?_
    refine x_iconst (v := (3 : Int32)) hG dX9_worker_15 (by decide) ?_
    refine x_cSI3 hG dX9_worker_16 (fun ha => c_X9_in ha h) gX9_worker_X9_in rfl ⟨rfl, rfl⟩ hy_X9_in ⟨Nat.le_of_ble_eq_true rfl, Nat.le_of_ble_eq_true rfl⟩ (Nat.le_of_ble_eq_true rfl) (fun z5 M6 h => ?_)
    refine x_if_eq (tgt := 35) hG dX9_worker_19 (by decide) (fun hc7 => ?_) (fun hc7 => ?_)
    · have h := h.1 hc7
      refine x_iconst (v := (-1 : Int32)) hG dX9_worker_35 (by decide) ?_
      exact x_iret hG hQ dX9_worker_36 rfl h
    · have h := h.2 hc7
      refine x_aload_n hG dX9_worker_22 rfl rfl ?_
      refine x_get_9_18 hG dX9_worker_23 (rfl : kd 81 = 9) hin_X9_worker_X9 (List.mem_of_getElem? (i := 2) rfl) ?_
      refine x_iconst (v := (4 : Int32)) hG dX9_worker_26 (by decide) ?_
      refine x_iload_n hG dX9_worker_27 rfl rfl ?_
      refine x_imul hG dX9_worker_28 ?_
      refine x_iload_n hG dX9_worker_29 rfl rfl ?_
      refine x_iadd hG dX9_worker_30 ?_
      obtain ⟨hi8, h⟩ := h
      refine x_iaload hG dX9_worker_31 (kf_9_18 (rfl : kd 81 = 9)).1 (x_inE (kf_9_18 (rfl : kd 81 = 9)).2 hi8) ?_
      refine x_goto (tgt := 36) hG dX9_worker_32 (by decide) ?_
      exact x_iret hG hQ dX9_worker_36 rfl h
abbrev rm_X9_holds : Room := { frames := 1, cells := 0, slots := 0, locals := 22 }
theorem hy_X9_holds : yX9_holds.cls = RX9 ∧ yX9_holds.cls ≠ "java/lang/invoke/MethodHandle" ∧ yX9_holds.cls ≠ "java/lang/invoke/VarHandle" ∧ (parseMethodDescriptor yX9_holds.desc).map (fun d => d.parameters.length) = some 2 := by decide +kernel
theorem hin_X9_holds_X9 : ∀ w ∈ wsX90, w ∈ wsX9_holds := fun _ h => List.mem_cons_of_mem _ (List.mem_append_right _ h)
set_option maxRecDepth 100000 in
set_option maxHeartbeats 4000000 in
theorem k_X9_holds_92 {G : xG} {post : Int32 → xMem → Prop} (hG : xOk G cX9_holds RX9 wsX9_holds rm_X9_holds) (hQ : xRetI G post .boolean) {r28 : xMem → Int32 → Int32 → Int32 → Int32 → Prop} (hr28 : ∀ (M : xMem) (p1 : Int32) (p2 : Int32) (p3 : Int32) (p4 : Int32), r28 M p1 p2 p3 p4 → xW G M [some (.ref (xa G 81)), some (.int p1), some (.int p2), some (.int p3), some (.int p4)] [] 28) : ∀ (M : xMem) (p1 : Int32) (p2 : Int32) (p4 : Int32) (s0 : Int32), b_X9_holds_92 post r28 M p1 p2 p4 s0 → xW G M [some (.ref (xa G 81)), some (.int p1), some (.int p2), none, some (.int p4)] [.int s0] 92 := by
  intro M p1 p2 p4 s0 h
  unfold b_X9_holds_92 at h
  refine x_istore_n hG dX9_holds_92 rfl (Nat.le_of_ble_eq_true rfl) rfl ?_
  refine x_iinc (v := _) hG dX9_holds_93 rfl (x_iincE (k := 1) (by decide)) (Nat.le_of_ble_eq_true rfl) rfl ?_
  refine x_goto (tgt := 28) hG dX9_holds_96 (by decide) ?_
  refine x_keep [true, true, true, true, true] rfl ?_
  exact hr28 _ _ _ _ _ h
set_option maxRecDepth 100000 in
set_option maxHeartbeats 4000000 in
theorem k_X9_holds_91 {G : xG} {post : Int32 → xMem → Prop} (hG : xOk G cX9_holds RX9 wsX9_holds rm_X9_holds) (hQ : xRetI G post .boolean) {r28 : xMem → Int32 → Int32 → Int32 → Int32 → Prop} (hr28 : ∀ (M : xMem) (p1 : Int32) (p2 : Int32) (p3 : Int32) (p4 : Int32), r28 M p1 p2 p3 p4 → xW G M [some (.ref (xa G 81)), some (.int p1), some (.int p2), some (.int p3), some (.int p4)] [] 28) : ∀ (M : xMem) (p1 : Int32) (p2 : Int32) (p4 : Int32), b_X9_holds_91 post r28 M p1 p2 p4 → xW G M [some (.ref (xa G 81)), some (.int p1), some (.int p2), none, some (.int p4)] [] 91 := by
  intro M p1 p2 p4 h
  unfold b_X9_holds_91 at h
  refine x_iconst (v := (0 : Int32)) hG dX9_holds_91 (by decide) ?_
  refine x_keep [true, true, true, false, true] rfl ?_
  exact k_X9_holds_92 hG hQ hr28 _ _ _ _ _ h
set_option maxRecDepth 100000 in
set_option maxHeartbeats 4000000 in
theorem k_X9_holds_87 {G : xG} {post : Int32 → xMem → Prop} (hG : xOk G cX9_holds RX9 wsX9_holds rm_X9_holds) (hQ : xRetI G post .boolean) {r28 : xMem → Int32 → Int32 → Int32 → Int32 → Prop} (hr28 : ∀ (M : xMem) (p1 : Int32) (p2 : Int32) (p3 : Int32) (p4 : Int32), r28 M p1 p2 p3 p4 → xW G M [some (.ref (xa G 81)), some (.int p1), some (.int p2), some (.int p3), some (.int p4)] [] 28) : ∀ (M : xMem) (p1 : Int32) (p2 : Int32) (p4 : Int32), b_X9_holds_87 post r28 M p1 p2 p4 → xW G M [some (.ref (xa G 81)), some (.int p1), some (.int p2), none, some (.int p4)] [] 87 := by
  intro M p1 p2 p4 h
  unfold b_X9_holds_87 at h
  refine x_iconst (v := (1 : Int32)) hG dX9_holds_87 (by decide) ?_
  refine x_goto (tgt := 92) hG dX9_holds_88 (by decide) ?_
  refine x_keep [true, true, true, false, true] rfl ?_
  exact k_X9_holds_92 hG hQ hr28 _ _ _ _ _ h
set_option maxRecDepth 100000 in
set_option maxHeartbeats 4000000 in
theorem k_X9_holds_28 {G : xG} {post : Int32 → xMem → Prop} (hG : xOk G cX9_holds RX9 wsX9_holds rm_X9_holds) (hQ : xRetI G post .boolean) : ∀ (M : xMem) (p1 : Int32) (p2 : Int32) (p3 : Int32) (p4 : Int32), xlp5 (b_X9_holds_28 post) M p1 p2 p3 p4 → xW G M [some (.ref (xa G 81)), some (.int p1), some (.int p2), some (.int p3), some (.int p4)] [] 28 := by
  refine xlp5_W (W := fun M p1 p2 p3 p4 => xW G M [some (.ref (xa G 81)), some (.int p1), some (.int p2), some (.int p3), some (.int p4)] [] 28) (fun r28 hr28 => ?_)
  intro M p1 p2 p3 p4 h
  unfold b_X9_holds_28 at h
  refine x_iload hG dX9_holds_28 rfl ?_
  refine x_iload_n hG dX9_holds_30 rfl rfl ?_
  refine x_icmp_ge (tgt := 99) hG dX9_holds_31 (by decide) (fun hc1 => ?_) (fun hc1 => ?_)
  · have h := h.1 hc1
    refine x_iload_n hG dX9_holds_99 rfl rfl ?_
    exact x_iret hG hQ dX9_holds_100 (x_nb h.1) h.2
  · have h := h.2 hc1
    refine x_iload_n hG dX9_holds_34 rfl rfl ?_
    refine x_if_eq (tgt := 91) hG dX9_holds_35 (by decide) (fun hc2 => ?_) (fun hc2 => ?_)
    · have h := h.1 hc2
      refine x_keep [true, true, true, false, true] rfl ?_
      exact k_X9_holds_91 hG hQ hr28 _ _ _ _ h
    · have h := h.2 hc2
      refine x_aload_n hG dX9_holds_38 rfl rfl ?_
      refine x_get_9_19 hG dX9_holds_39 (rfl : kd 81 = 9) hin_X9_holds_X9 (List.mem_of_getElem? (i := 1) rfl) ?_
      refine x_iconst (v := (5 : Int32)) hG dX9_holds_42 (by decide) ?_
      refine x_iload hG dX9_holds_43 rfl ?_
      refine x_imul hG dX9_holds_45 ?_
      obtain ⟨hi3, h⟩ := h
      refine x_iaload hG dX9_holds_46 (kf_9_19 (rfl : kd 81 = 9)).1 (x_inE (kf_9_19 (rfl : kd 81 = 9)).2 hi3) ?_
      refine x_aload_n hG dX9_holds_47 rfl rfl ?_
      refine x_get_9_19 hG dX9_holds_48 (rfl : kd 81 = 9) hin_X9_holds_X9 (List.mem_of_getElem? (i := 1) rfl) ?_
      refine x_iconst (v := (5 : Int32)) hG dX9_holds_51 (by decide) ?_
      refine x_iload_n hG dX9_holds_52 rfl rfl ?_
      refine x_imul hG dX9_holds_53 ?_
      obtain ⟨hi4, h⟩ := h
      refine x_iaload hG dX9_holds_54 (kf_9_19 (rfl : kd 81 = 9)).1 (x_inE (kf_9_19 (rfl : kd 81 = 9)).2 hi4) ?_
      refine x_icmp_ne (tgt := 87) hG dX9_holds_55 (by decide) (fun hc5 => ?_) (fun hc5 => ?_)
      · have h := h.1 hc5
        refine x_keep [true, true, true, false, true] rfl ?_
        exact k_X9_holds_87 hG hQ hr28 _ _ _ _ h
      · have h := h.2 hc5
        refine x_iload_n hG dX9_holds_58 rfl rfl ?_
        refine x_aload_n hG dX9_holds_59 rfl rfl ?_
        refine x_get_9_19 hG dX9_holds_60 (rfl : kd 81 = 9) hin_X9_holds_X9 (List.mem_of_getElem? (i := 1) rfl) ?_
        refine x_iconst (v := (5 : Int32)) hG dX9_holds_63 (by decide) ?_
        refine x_iload hG dX9_holds_64 rfl ?_
        refine x_imul hG dX9_holds_66 ?_
        refine x_iconst (v := (1 : Int32)) hG dX9_holds_67 (by decide) ?_
        refine x_iadd hG dX9_holds_68 ?_
        obtain ⟨hi6, h⟩ := h
        refine x_iaload hG dX9_holds_69 (kf_9_19 (rfl : kd 81 = 9)).1 (x_inE (kf_9_19 (rfl : kd 81 = 9)).2 hi6) ?_
        refine x_aload_n hG dX9_holds_70 rfl rfl ?_
        refine x_get_9_19 hG dX9_holds_71 (rfl : kd 81 = 9) hin_X9_holds_X9 (List.mem_of_getElem? (i := 1) rfl) ?_
        refine x_iconst (v := (5 : Int32)) hG dX9_holds_74 (by decide) ?_
        refine x_iload hG dX9_holds_75 rfl ?_
        refine x_imul hG dX9_holds_77 ?_
        refine x_iconst (v := (2 : Int32)) hG dX9_holds_78 (by decide) ?_
        refine x_iadd hG dX9_holds_79 ?_
        obtain ⟨hi7, h⟩ := h
        refine x_iaload hG dX9_holds_80 (kf_9_19 (rfl : kd 81 = 9)).1 (x_inE (kf_9_19 (rfl : kd 81 = 9)).2 hi7) ?_
        refine x_cSI3 hG dX9_holds_81 (fun ha => c_X9_in ha h) gX9_holds_X9_in rfl ⟨rfl, rfl⟩ hy_X9_in ⟨Nat.le_of_ble_eq_true rfl, Nat.le_of_ble_eq_true rfl⟩ (Nat.le_of_ble_eq_true rfl) (fun z8 M9 h => ?_)
        refine x_if_ne (tgt := 91) hG dX9_holds_84 (by decide) (fun hc10 => ?_) (fun hc10 => ?_)
        · have h := h.1 hc10
          refine x_keep [true, true, true, false, true] rfl ?_
          exact k_X9_holds_91 hG hQ hr28 _ _ _ _ h
        · have h := h.2 hc10
          refine x_keep [true, true, true, false, true] rfl ?_
          exact k_X9_holds_87 hG hQ hr28 _ _ _ _ h
set_option maxRecDepth 100000 in
set_option maxHeartbeats 4000000 in
theorem c_X9_holds {l : Launch} {a : Nat → Nat} {M : xMem} {p1 : Int32} {p2 : Int32} {post : Int32 → xMem → Prop} (ha : xInj a) (h : w_X9_holds M p1 p2 post) : ∀ D cs sz, xMetI l yX9_holds wsX9_holds rm_X9_holds D a cs sz M [.ref (a 81), .int p1, .int p2] post := by
  intro D cs sz
  unfold w_X9_holds at h
  refine x_metI (ty := .boolean) [some (.ref (a 81)), some (.int p1), some (.int p2), none, none] (by decide) rfl rfl (Nat.le_of_ble_eq_true rfl) rfl rfl ha D cs sz rfl (fun G e1 e2 hG hQ => ?_)
  subst e1
  subst e2
  refine x_iload_n hG dX9_holds_0 rfl rfl ?_
  refine x_aload_n hG dX9_holds_1 rfl rfl ?_
  refine x_get_9_19 hG dX9_holds_2 (rfl : kd 81 = 9) hin_X9_holds_X9 (List.mem_of_getElem? (i := 1) rfl) ?_
  refine x_iconst (v := (5 : Int32)) hG dX9_holds_5 (by decide) ?_
  refine x_iload_n hG dX9_holds_6 rfl rfl ?_
  refine x_imul hG dX9_holds_7 ?_
  refine x_iconst (v := (1 : Int32)) hG dX9_holds_8 (by decide) ?_
  refine x_iadd hG dX9_holds_9 ?_
  obtain ⟨hi1, h⟩ := h
  refine x_iaload hG dX9_holds_10 (kf_9_19 (rfl : kd 81 = 9)).1 (x_inE (kf_9_19 (rfl : kd 81 = 9)).2 hi1) ?_
  refine x_aload_n hG dX9_holds_11 rfl rfl ?_
  refine x_get_9_19 hG dX9_holds_12 (rfl : kd 81 = 9) hin_X9_holds_X9 (List.mem_of_getElem? (i := 1) rfl) ?_
  refine x_iconst (v := (5 : Int32)) hG dX9_holds_15 (by decide) ?_
  refine x_iload_n hG dX9_holds_16 rfl rfl ?_
  refine x_imul hG dX9_holds_17 ?_
  refine x_iconst (v := (2 : Int32)) hG dX9_holds_18 (by decide) ?_
  refine x_iadd hG dX9_holds_19 ?_
  obtain ⟨hi2, h⟩ := h
  refine x_iaload hG dX9_holds_20 (kf_9_19 (rfl : kd 81 = 9)).1 (x_inE (kf_9_19 (rfl : kd 81 = 9)).2 hi2) ?_
  refine x_cSI3 hG dX9_holds_21 (fun ha => c_X9_in ha h) gX9_holds_X9_in rfl ⟨rfl, rfl⟩ hy_X9_in ⟨Nat.le_of_ble_eq_true rfl, Nat.le_of_ble_eq_true rfl⟩ (Nat.le_of_ble_eq_true rfl) (fun z3 M4 h => ?_)
  refine x_istore_n hG dX9_holds_24 rfl (Nat.le_of_ble_eq_true rfl) rfl ?_
  refine x_iconst (v := (0 : Int32)) hG dX9_holds_25 (by decide) ?_
  refine x_istore hG dX9_holds_26 (Nat.le_of_ble_eq_true rfl) rfl ?_
  refine x_keep [true, true, true, true, true] rfl ?_
  exact k_X9_holds_28 hG hQ _ _ _ _ _ h
abbrev rm_X9_deed : Room := { frames := 2, cells := 0, slots := 0, locals := 46 }
theorem hy_X9_deed : yX9_deed.cls = RX9 ∧ yX9_deed.cls ≠ "java/lang/invoke/MethodHandle" ∧ yX9_deed.cls ≠ "java/lang/invoke/VarHandle" ∧ (parseMethodDescriptor yX9_deed.desc).map (fun d => d.parameters.length) = some 2 := by decide +kernel
theorem hin_X9_deed_X9 : ∀ w ∈ wsX90, w ∈ wsX9_deed := fun _ h => List.mem_cons_of_mem _ (List.mem_append_right _ h)
set_option maxRecDepth 100000 in
set_option maxHeartbeats 4000000 in
theorem k_X9_deed_61 {G : xG} {post : Int32 → xMem → Prop} (hG : xOk G cX9_deed RX9 wsX9_deed rm_X9_deed) (hQ : xRetI G post .int) {r35 : xMem → Int32 → Int32 → Int32 → Int32 → Prop} (hr35 : ∀ (M : xMem) (p1 : Int32) (p2 : Int32) (p3 : Int32) (p4 : Int32), r35 M p1 p2 p3 p4 → xW G M [some (.ref (xa G 81)), some (.int p1), some (.int p2), some (.int p3), some (.int p4)] [] 35) : ∀ (M : xMem) (p1 : Int32) (p2 : Int32) (p4 : Int32) (s0 : Int32) (s1 : Int32), b_X9_deed_61 post r35 M p1 p2 p4 s0 s1 → xW G M [some (.ref (xa G 81)), some (.int p1), some (.int p2), none, some (.int p4)] [.int s1, .int s0] 61 := by
  intro M p1 p2 p4 s0 s1 h
  unfold b_X9_deed_61 at h
  refine x_ior hG dX9_deed_61 ?_
  refine x_istore_n hG dX9_deed_62 rfl (Nat.le_of_ble_eq_true rfl) rfl ?_
  refine x_iinc (v := _) hG dX9_deed_63 rfl (x_iincE (k := 1) (by decide)) (Nat.le_of_ble_eq_true rfl) rfl ?_
  refine x_goto (tgt := 35) hG dX9_deed_66 (by decide) ?_
  refine x_keep [true, true, true, true, true] rfl ?_
  exact hr35 _ _ _ _ _ h
set_option maxRecDepth 100000 in
set_option maxHeartbeats 4000000 in
theorem k_X9_deed_35 {G : xG} {post : Int32 → xMem → Prop} (hG : xOk G cX9_deed RX9 wsX9_deed rm_X9_deed) (hQ : xRetI G post .int) : ∀ (M : xMem) (p1 : Int32) (p2 : Int32) (p3 : Int32) (p4 : Int32), xlp5 (b_X9_deed_35 post) M p1 p2 p3 p4 → xW G M [some (.ref (xa G 81)), some (.int p1), some (.int p2), some (.int p3), some (.int p4)] [] 35 := by
  refine xlp5_W (W := fun M p1 p2 p3 p4 => xW G M [some (.ref (xa G 81)), some (.int p1), some (.int p2), some (.int p3), some (.int p4)] [] 35) (fun r35 hr35 => ?_)
  intro M p1 p2 p3 p4 h
  unfold b_X9_deed_35 at h
  refine x_iload hG dX9_deed_35 rfl ?_
  refine x_bipush (v := (12 : Int32)) hG dX9_deed_37 (by decide) ?_
  refine x_icmp_ge (tgt := 69) hG dX9_deed_39 (by decide) (fun hc1 => ?_) (fun hc1 => ?_)
  · have h := h.1 hc1
    refine x_iload_n hG dX9_deed_69 rfl rfl ?_
    refine x_iconst (v := (5 : Int32)) hG dX9_deed_70 (by decide) ?_
    refine x_icmp_ge (tgt := 87) hG dX9_deed_71 (by decide) (fun hc2 => ?_) (fun hc2 => ?_)
    · have h := h.1 hc2
      refine x_iload_n hG dX9_deed_87 rfl rfl ?_
      exact x_iret hG hQ dX9_deed_88 rfl h
    · have h := h.2 hc2
      refine x_aload_n hG dX9_deed_74 rfl rfl ?_
      refine x_get_9_19 hG dX9_deed_75 (rfl : kd 81 = 9) hin_X9_deed_X9 (List.mem_of_getElem? (i := 3) rfl) ?_
      refine x_iconst (v := (5 : Int32)) hG dX9_deed_78 (by decide) ?_
      refine x_iload_n hG dX9_deed_79 rfl rfl ?_
      refine x_imul hG dX9_deed_80 ?_
      refine x_iload_n hG dX9_deed_81 rfl rfl ?_
      refine x_iadd hG dX9_deed_82 ?_
      obtain ⟨hi3, h⟩ := h
      refine x_iaload hG dX9_deed_83 (kf_9_19 (rfl : kd 81 = 9)).1 (x_inE (kf_9_19 (rfl : kd 81 = 9)).2 hi3) ?_
      refine x_goto (tgt := 88) hG dX9_deed_84 (by decide) ?_
      exact x_iret hG hQ dX9_deed_88 rfl h
  · have h := h.2 hc1
    refine x_iload_n hG dX9_deed_42 rfl rfl ?_
    refine x_aload_n hG dX9_deed_43 rfl rfl ?_
    refine x_iload_n hG dX9_deed_44 rfl rfl ?_
    refine x_iload hG dX9_deed_45 rfl ?_
    refine x_cVI2 hG dX9_deed_47 (fun ha => c_X9_holds ha h) gX9_deed_X9_holds rfl ⟨rfl, rfl⟩ hy_X9_holds ⟨Nat.le_of_ble_eq_true rfl, Nat.le_of_ble_eq_true rfl⟩ (kd_lt (rfl : kd 81 = 9) (by decide)) (fun _ => xc_9 (rfl : kd 81 = 9)) rfl (Nat.le_of_ble_eq_true rfl) (fun z4 M5 h => ?_)
    refine x_if_eq (tgt := 60) hG dX9_deed_50 (by decide) (fun hc6 => ?_) (fun hc6 => ?_)
    · have h := h.1 hc6
      refine x_iconst (v := (0 : Int32)) hG dX9_deed_60 (by decide) ?_
      refine x_keep [true, true, true, false, true] rfl ?_
      exact k_X9_deed_61 hG hQ hr35 _ _ _ _ _ _ h
    · have h := h.2 hc6
      refine x_iconst (v := (1 : Int32)) hG dX9_deed_53 (by decide) ?_
      refine x_iload hG dX9_deed_54 rfl ?_
      refine x_ishl hG dX9_deed_56 ?_
      refine x_goto (tgt := 61) hG dX9_deed_57 (by decide) ?_
      refine x_keep [true, true, true, false, true] rfl ?_
      exact k_X9_deed_61 hG hQ hr35 _ _ _ _ _ _ h
set_option maxRecDepth 100000 in
set_option maxHeartbeats 4000000 in
theorem c_X9_deed {l : Launch} {a : Nat → Nat} {M : xMem} {p1 : Int32} {p2 : Int32} {post : Int32 → xMem → Prop} (ha : xInj a) (h : w_X9_deed M p1 p2 post) : ∀ D cs sz, xMetI l yX9_deed wsX9_deed rm_X9_deed D a cs sz M [.ref (a 81), .int p1, .int p2] post := by
  intro D cs sz
  unfold w_X9_deed at h
  refine x_metI (ty := .int) [some (.ref (a 81)), some (.int p1), some (.int p2), none, none] (by decide) rfl rfl (Nat.le_of_ble_eq_true rfl) rfl rfl ha D cs sz rfl (fun G e1 e2 hG hQ => ?_)
  subst e1
  subst e2
  refine x_aload_n hG dX9_deed_0 rfl rfl ?_
  refine x_iconst (v := (0 : Int32)) hG dX9_deed_1 (by decide) ?_
  have h := h _ rfl
  refine x_put_9_0 hG dX9_deed_2 (rfl : kd 81 = 9) hin_X9_deed_X9 (List.mem_of_getElem? (i := 1) rfl) ?_
  refine x_iload_n hG dX9_deed_5 rfl rfl ?_
  refine x_iconst (v := (0 : Int32)) hG dX9_deed_6 (by decide) ?_
  refine x_aload_n hG dX9_deed_7 rfl rfl ?_
  refine x_get_9_21 hG dX9_deed_8 (rfl : kd 81 = 9) hin_X9_deed_X9 (List.mem_of_getElem? (i := 2) rfl) ?_
  refine x_iconst (v := (1 : Int32)) hG dX9_deed_11 (by decide) ?_
  refine x_isub hG dX9_deed_12 ?_
  refine x_cSI3 hG dX9_deed_13 (fun ha => c_X9_in ha h) gX9_deed_X9_in rfl ⟨rfl, rfl⟩ hy_X9_in ⟨Nat.le_of_ble_eq_true rfl, Nat.le_of_ble_eq_true rfl⟩ (Nat.le_of_ble_eq_true rfl) (fun z2 M3 h => ?_)
  refine x_if_eq (tgt := 28) hG dX9_deed_16 (by decide) (fun hc4 => ?_) (fun hc4 => ?_)
  · have h := h.1 hc4
    refine x_iconst (v := (-1 : Int32)) hG dX9_deed_28 (by decide) ?_
    exact x_iret hG hQ dX9_deed_29 rfl h
  · have h := h.2 hc4
    refine x_iload_n hG dX9_deed_19 rfl rfl ?_
    refine x_iconst (v := (0 : Int32)) hG dX9_deed_20 (by decide) ?_
    refine x_iconst (v := (5 : Int32)) hG dX9_deed_21 (by decide) ?_
    refine x_cSI3 hG dX9_deed_22 (fun ha => c_X9_in ha h) gX9_deed_X9_in rfl ⟨rfl, rfl⟩ hy_X9_in ⟨Nat.le_of_ble_eq_true rfl, Nat.le_of_ble_eq_true rfl⟩ (Nat.le_of_ble_eq_true rfl) (fun z5 M6 h => ?_)
    refine x_if_ne (tgt := 30) hG dX9_deed_25 (by decide) (fun hc7 => ?_) (fun hc7 => ?_)
    · have h := h.1 hc7
      refine x_iconst (v := (0 : Int32)) hG dX9_deed_30 (by decide) ?_
      refine x_istore_n hG dX9_deed_31 rfl (Nat.le_of_ble_eq_true rfl) rfl ?_
      refine x_iconst (v := (0 : Int32)) hG dX9_deed_32 (by decide) ?_
      refine x_istore hG dX9_deed_33 (Nat.le_of_ble_eq_true rfl) rfl ?_
      refine x_keep [true, true, true, true, true] rfl ?_
      exact k_X9_deed_35 hG hQ _ _ _ _ _ h
    · have h := h.2 hc7
      refine x_iconst (v := (-1 : Int32)) hG dX9_deed_28 (by decide) ?_
      exact x_iret hG hQ dX9_deed_29 rfl h
abbrev rm_X9_passes : Room := { frames := 2, cells := 0, slots := 0, locals := 45 }
theorem hy_X9_passes : yX9_passes.cls = RX9 ∧ yX9_passes.cls ≠ "java/lang/invoke/MethodHandle" ∧ yX9_passes.cls ≠ "java/lang/invoke/VarHandle" ∧ (parseMethodDescriptor yX9_passes.desc).map (fun d => d.parameters.length) = some 3 := by decide +kernel
theorem hin_X9_passes_X9 : ∀ w ∈ wsX90, w ∈ wsX9_passes := fun _ h => List.mem_cons_of_mem _ (List.mem_append_right _ h)
set_option maxRecDepth 100000 in
set_option maxHeartbeats 4000000 in
theorem k_X9_passes_106 {G : xG} {post : Int32 → xMem → Prop} (hG : xOk G cX9_passes RX9 wsX9_passes rm_X9_passes) (hQ : xRetI G post .int) : ∀ (M : xMem) (p2 : Int32) (p3 : Int32) (p7 : Int32) (p8 : Int32), xlp5 (b_X9_passes_106 post) M p2 p3 p7 p8 → xW G M [some (.ref (xa G 81)), none, some (.int p2), some (.int p3), none, none, none, some (.int p7), some (.int p8)] [] 106 := by
  refine xlp5_W (W := fun M p2 p3 p7 p8 => xW G M [some (.ref (xa G 81)), none, some (.int p2), some (.int p3), none, none, none, some (.int p7), some (.int p8)] [] 106) (fun r106 hr106 => ?_)
  intro M p2 p3 p7 p8 h
  unfold b_X9_passes_106 at h
  refine x_iload hG dX9_passes_106 rfl ?_
  refine x_if_le (tgt := 123) hG dX9_passes_108 (by decide) (fun hc1 => ?_) (fun hc1 => ?_)
  · have h := h.1 hc1
    refine x_iload hG dX9_passes_123 rfl ?_
    refine x_aload_n hG dX9_passes_125 rfl rfl ?_
    refine x_get_9_14 hG dX9_passes_126 (rfl : kd 81 = 9) hin_X9_passes_X9 (List.mem_of_getElem? (i := 2) rfl) ?_
    refine x_iload_n hG dX9_passes_129 rfl rfl ?_
    refine x_iload_n hG dX9_passes_130 rfl rfl ?_
    refine x_aload_n hG dX9_passes_131 rfl rfl ?_
    refine x_get_9_9 hG dX9_passes_132 (rfl : kd 81 = 9) hin_X9_passes_X9 (List.mem_of_getElem? (i := 1) rfl) ?_
    refine x_bipush (v := (96 : Int32)) hG dX9_passes_135 (by decide) ?_
    refine x_cSI4 hG dX9_passes_137 (fun ha => c_X9_spotOf ha h) gX9_passes_X9_spotOf rfl ⟨rfl, rfl⟩ hy_X9_spotOf ⟨Nat.le_of_ble_eq_true rfl, Nat.le_of_ble_eq_true rfl⟩ (Nat.le_of_ble_eq_true rfl) (fun z2 M3 h => ?_)
    obtain ⟨hi4, h⟩ := h
    refine x_iaload hG dX9_passes_140 (kf_9_14 (rfl : kd 81 = 9)).1 (x_inE (kf_9_14 (rfl : kd 81 = 9)).2 hi4) ?_
    refine x_isub hG dX9_passes_141 ?_
    refine x_istore hG dX9_passes_142 (Nat.le_of_ble_eq_true rfl) rfl ?_
    refine x_iload hG dX9_passes_144 rfl ?_
    refine x_if_ge (tgt := 153) hG dX9_passes_146 (by decide) (fun hc5 => ?_) (fun hc5 => ?_)
    · have h := h.1 hc5
      refine x_iload hG dX9_passes_153 rfl ?_
      exact x_iret hG hQ dX9_passes_155 rfl h
    · have h := h.2 hc5
      refine x_iconst (v := (0 : Int32)) hG dX9_passes_149 (by decide) ?_
      refine x_goto (tgt := 155) hG dX9_passes_150 (by decide) ?_
      exact x_iret hG hQ dX9_passes_155 rfl h
  · have h := h.2 hc1
    refine x_iload hG dX9_passes_111 rfl ?_
    refine x_iconst (v := (2 : Int32)) hG dX9_passes_113 (by decide) ?_
    refine x_idiv hG dX9_passes_114 (by decide) ?_
    refine x_istore hG dX9_passes_115 (Nat.le_of_ble_eq_true rfl) rfl ?_
    refine x_iinc (v := _) hG dX9_passes_117 rfl (x_iincE (k := (-1)) (by decide)) (Nat.le_of_ble_eq_true rfl) rfl ?_
    refine x_goto (tgt := 106) hG dX9_passes_120 (by decide) ?_
    refine x_keep [true, false, true, true, false, false, false, true, true] rfl ?_
    exact hr106 _ _ _ _ _ h
set_option maxRecDepth 100000 in
set_option maxHeartbeats 4000000 in
theorem k_X9_passes_86 {G : xG} {post : Int32 → xMem → Prop} (hG : xOk G cX9_passes RX9 wsX9_passes rm_X9_passes) (hQ : xRetI G post .int) : ∀ (M : xMem) (p2 : Int32) (p3 : Int32) (s0 : Int32) (s1 : Int32), b_X9_passes_86 post M p2 p3 s0 s1 → xW G M [some (.ref (xa G 81)), none, some (.int p2), some (.int p3), none, none, none, none, none] [.int s1, .int s0] 86 := by
  intro M p2 p3 s0 s1 h
  unfold b_X9_passes_86 at h
  refine x_isub hG dX9_passes_86 ?_
  refine x_istore hG dX9_passes_87 (Nat.le_of_ble_eq_true rfl) rfl ?_
  refine x_aload_n hG dX9_passes_89 rfl rfl ?_
  refine x_get_9_14 hG dX9_passes_90 (rfl : kd 81 = 9) hin_X9_passes_X9 (List.mem_of_getElem? (i := 2) rfl) ?_
  refine x_iload_n hG dX9_passes_93 rfl rfl ?_
  refine x_iload_n hG dX9_passes_94 rfl rfl ?_
  refine x_aload_n hG dX9_passes_95 rfl rfl ?_
  refine x_get_9_9 hG dX9_passes_96 (rfl : kd 81 = 9) hin_X9_passes_X9 (List.mem_of_getElem? (i := 1) rfl) ?_
  refine x_iconst (v := (0 : Int32)) hG dX9_passes_99 (by decide) ?_
  refine x_cSI4 hG dX9_passes_100 (fun ha => c_X9_spotOf ha h) gX9_passes_X9_spotOf rfl ⟨rfl, rfl⟩ hy_X9_spotOf ⟨Nat.le_of_ble_eq_true rfl, Nat.le_of_ble_eq_true rfl⟩ (Nat.le_of_ble_eq_true rfl) (fun z1 M2 h => ?_)
  obtain ⟨hi3, h⟩ := h
  refine x_iaload hG dX9_passes_103 (kf_9_14 (rfl : kd 81 = 9)).1 (x_inE (kf_9_14 (rfl : kd 81 = 9)).2 hi3) ?_
  refine x_istore hG dX9_passes_104 (Nat.le_of_ble_eq_true rfl) rfl ?_
  refine x_keep [true, false, true, true, false, false, false, true, true] rfl ?_
  exact k_X9_passes_106 hG hQ _ _ _ _ _ h
set_option maxRecDepth 100000 in
set_option maxHeartbeats 4000000 in
theorem k_X9_passes_70 {G : xG} {post : Int32 → xMem → Prop} (hG : xOk G cX9_passes RX9 wsX9_passes rm_X9_passes) (hQ : xRetI G post .int) : ∀ (M : xMem) (p1 : Int32) (p2 : Int32) (p3 : Int32) (s0 : Int32) (s1 : Int32), b_X9_passes_70 post M p1 p2 p3 s0 s1 → xW G M [some (.ref (xa G 81)), some (.int p1), some (.int p2), some (.int p3), none, none, none, none, none] [.int s1, .int s0] 70 := by
  intro M p1 p2 p3 s0 s1 h
  unfold b_X9_passes_70 at h
  refine x_isub hG dX9_passes_70 ?_
  refine x_istore hG dX9_passes_71 (Nat.le_of_ble_eq_true rfl) rfl ?_
  refine x_iload_n hG dX9_passes_73 rfl rfl ?_
  refine x_iload hG dX9_passes_74 rfl ?_
  refine x_iconst (v := (1 : Int32)) hG dX9_passes_76 (by decide) ?_
  refine x_icmp_ge (tgt := 84) hG dX9_passes_77 (by decide) (fun hc1 => ?_) (fun hc1 => ?_)
  · have h := h.1 hc1
    refine x_iload hG dX9_passes_84 rfl ?_
    refine x_keep [true, false, true, true, false, false, false, false, false] rfl ?_
    exact k_X9_passes_86 hG hQ _ _ _ _ _ h
  · have h := h.2 hc1
    refine x_iconst (v := (1 : Int32)) hG dX9_passes_80 (by decide) ?_
    refine x_goto (tgt := 86) hG dX9_passes_81 (by decide) ?_
    refine x_keep [true, false, true, true, false, false, false, false, false] rfl ?_
    exact k_X9_passes_86 hG hQ _ _ _ _ _ h
set_option maxRecDepth 100000 in
set_option maxHeartbeats 4000000 in
theorem k_X9_passes_51 {G : xG} {post : Int32 → xMem → Prop} (hG : xOk G cX9_passes RX9 wsX9_passes rm_X9_passes) (hQ : xRetI G post .int) : ∀ (M : xMem) (p1 : Int32) (p2 : Int32) (p3 : Int32) (s0 : Int32), b_X9_passes_51 post M p1 p2 p3 s0 → xW G M [some (.ref (xa G 81)), some (.int p1), some (.int p2), some (.int p3), none, none, none, none, none] [.int s0] 51 := by
  intro M p1 p2 p3 s0 h
  unfold b_X9_passes_51 at h
  refine x_istore hG dX9_passes_51 (Nat.le_of_ble_eq_true rfl) rfl ?_
  refine x_aload_n hG dX9_passes_53 rfl rfl ?_
  refine x_get_9_11 hG dX9_passes_54 (rfl : kd 81 = 9) hin_X9_passes_X9 (List.mem_of_getElem? (i := 3) rfl) ?_
  refine x_iload_n hG dX9_passes_57 rfl rfl ?_
  refine x_iload_n hG dX9_passes_58 rfl rfl ?_
  refine x_icmp_le (tgt := 67) hG dX9_passes_59 (by decide) (fun hc1 => ?_) (fun hc1 => ?_)
  · have h := h.1 hc1
    refine x_iload hG dX9_passes_67 rfl ?_
    refine x_ineg hG dX9_passes_69 ?_
    refine x_keep [true, true, true, true, false, false, false, false, false] rfl ?_
    exact k_X9_passes_70 hG hQ _ _ _ _ _ _ h
  · have h := h.2 hc1
    refine x_iload hG dX9_passes_62 rfl ?_
    refine x_goto (tgt := 70) hG dX9_passes_64 (by decide) ?_
    refine x_keep [true, true, true, true, false, false, false, false, false] rfl ?_
    exact k_X9_passes_70 hG hQ _ _ _ _ _ _ h
set_option maxRecDepth 100000 in
set_option maxHeartbeats 4000000 in
theorem k_X9_passes_25 {G : xG} {post : Int32 → xMem → Prop} (hG : xOk G cX9_passes RX9 wsX9_passes rm_X9_passes) (hQ : xRetI G post .int) : ∀ (M : xMem) (p1 : Int32) (p2 : Int32) (p3 : Int32) (s0 : Int32), b_X9_passes_25 post M p1 p2 p3 s0 → xW G M [some (.ref (xa G 81)), some (.int p1), some (.int p2), some (.int p3), none, none, none, none, none] [.int s0] 25 := by
  intro M p1 p2 p3 s0 h
  unfold b_X9_passes_25 at h
  refine x_istore hG dX9_passes_25 (Nat.le_of_ble_eq_true rfl) rfl ?_
  refine x_iload hG dX9_passes_27 rfl ?_
  refine x_if_eq (tgt := 43) hG dX9_passes_29 (by decide) (fun hc1 => ?_) (fun hc1 => ?_)
  · have h := h.1 hc1
    refine x_aload_n hG dX9_passes_43 rfl rfl ?_
    refine x_get_9_14 hG dX9_passes_44 (rfl : kd 81 = 9) hin_X9_passes_X9 (List.mem_of_getElem? (i := 2) rfl) ?_
    refine x_sipush (v := (192 : Int32)) hG dX9_passes_47 (by decide) ?_
    refine x_iaload hG dX9_passes_50 (kf_9_14 (rfl : kd 81 = 9)).1 (x_inE (kf_9_14 (rfl : kd 81 = 9)).2 (x_inC (by decide))) ?_
    refine x_keep [true, true, true, true, false, false, false, false, false] rfl ?_
    exact k_X9_passes_51 hG hQ _ _ _ _ _ h
  · have h := h.2 hc1
    refine x_aload_n hG dX9_passes_32 rfl rfl ?_
    refine x_get_9_14 hG dX9_passes_33 (rfl : kd 81 = 9) hin_X9_passes_X9 (List.mem_of_getElem? (i := 2) rfl) ?_
    refine x_sipush (v := (193 : Int32)) hG dX9_passes_36 (by decide) ?_
    refine x_iaload hG dX9_passes_39 (kf_9_14 (rfl : kd 81 = 9)).1 (x_inE (kf_9_14 (rfl : kd 81 = 9)).2 (x_inC (by decide))) ?_
    refine x_goto (tgt := 51) hG dX9_passes_40 (by decide) ?_
    refine x_keep [true, true, true, true, false, false, false, false, false] rfl ?_
    exact k_X9_passes_51 hG hQ _ _ _ _ _ h
set_option maxRecDepth 100000 in
set_option maxHeartbeats 4000000 in
theorem k_X9_passes_20 {G : xG} {post : Int32 → xMem → Prop} (hG : xOk G cX9_passes RX9 wsX9_passes rm_X9_passes) (hQ : xRetI G post .int) : ∀ (M : xMem) (p1 : Int32) (p2 : Int32) (p3 : Int32), b_X9_passes_20 post M p1 p2 p3 → xW G M [some (.ref (xa G 81)), some (.int p1), some (.int p2), some (.int p3), none, none, none, none, none] [] 20 := by
  intro M p1 p2 p3 h
  unfold b_X9_passes_20 at h
  refine x_iconst (v := (1 : Int32)) hG dX9_passes_20 (by decide) ?_
  refine x_goto (tgt := 25) hG dX9_passes_21 (by decide) ?_
  refine x_keep [true, true, true, true, false, false, false, false, false] rfl ?_
  exact k_X9_passes_25 hG hQ _ _ _ _ _ h
set_option maxRecDepth 100000 in
set_option maxHeartbeats 4000000 in
theorem c_X9_passes {l : Launch} {a : Nat → Nat} {M : xMem} {p1 : Int32} {p2 : Int32} {p3 : Int32} {post : Int32 → xMem → Prop} (ha : xInj a) (h : w_X9_passes M p1 p2 p3 post) : ∀ D cs sz, xMetI l yX9_passes wsX9_passes rm_X9_passes D a cs sz M [.ref (a 81), .int p1, .int p2, .int p3] post := by
  intro D cs sz
  unfold w_X9_passes at h
  refine x_metI (ty := .int) [some (.ref (a 81)), some (.int p1), some (.int p2), some (.int p3), none, none, none, none, none] (by decide) rfl rfl (Nat.le_of_ble_eq_true rfl) rfl rfl ha D cs sz rfl (fun G e1 e2 hG hQ => ?_)
  subst e1
  subst e2
  refine x_iload_n hG dX9_passes_0 rfl rfl ?_
  refine x_iload_n hG dX9_passes_1 rfl rfl ?_
  refine x_aload_n hG dX9_passes_2 rfl rfl ?_
  refine x_get_9_9 hG dX9_passes_3 (rfl : kd 81 = 9) hin_X9_passes_X9 (List.mem_of_getElem? (i := 1) rfl) ?_
  refine x_iadd hG dX9_passes_6 ?_
  refine x_icmp_eq (tgt := 20) hG dX9_passes_7 (by decide) (fun hc1 => ?_) (fun hc1 => ?_)
  · have h := h.1 hc1
    refine x_keep [true, true, true, true, false, false, false, false, false] rfl ?_
    exact k_X9_passes_20 hG hQ _ _ _ _ h
  · have h := h.2 hc1
    refine x_iload_n hG dX9_passes_10 rfl rfl ?_
    refine x_iload_n hG dX9_passes_11 rfl rfl ?_
    refine x_aload_n hG dX9_passes_12 rfl rfl ?_
    refine x_get_9_9 hG dX9_passes_13 (rfl : kd 81 = 9) hin_X9_passes_X9 (List.mem_of_getElem? (i := 1) rfl) ?_
    refine x_isub hG dX9_passes_16 ?_
    refine x_icmp_ne (tgt := 24) hG dX9_passes_17 (by decide) (fun hc2 => ?_) (fun hc2 => ?_)
    · have h := h.1 hc2
      refine x_iconst (v := (0 : Int32)) hG dX9_passes_24 (by decide) ?_
      refine x_keep [true, true, true, true, false, false, false, false, false] rfl ?_
      exact k_X9_passes_25 hG hQ _ _ _ _ _ h
    · have h := h.2 hc2
      refine x_keep [true, true, true, true, false, false, false, false, false] rfl ?_
      exact k_X9_passes_20 hG hQ _ _ _ _ h
abbrev rm_X9_spreads : Room := { frames := 3, cells := 0, slots := 0, locals := 73 }
theorem hy_X9_spreads : yX9_spreads.cls = RX9 ∧ yX9_spreads.cls ≠ "java/lang/invoke/MethodHandle" ∧ yX9_spreads.cls ≠ "java/lang/invoke/VarHandle" ∧ (parseMethodDescriptor yX9_spreads.desc).map (fun d => d.parameters.length) = some 3 := by decide +kernel
theorem hin_X9_spreads_X9 : ∀ w ∈ wsX90, w ∈ wsX9_spreads := fun _ h => List.mem_cons_of_mem _ (List.mem_append_right _ h)
set_option maxRecDepth 100000 in
set_option maxHeartbeats 4000000 in
theorem k_X9_spreads_209 {G : xG} {post : xMem → Prop} (hG : xOk G cX9_spreads RX9 wsX9_spreads rm_X9_spreads) (hQ : xRetV G post) {r53 : xMem → Int32 → Int32 → Prop} (hr53 : ∀ (M : xMem) (p4 : Int32) (p5 : Int32), r53 M p4 p5 → xW G M [some (.ref (xa G 81)), none, none, none, some (.int p4), some (.int p5), none, none, none] [] 53) {r64 : xMem → Int32 → Int32 → Int32 → Prop} (hr64 : ∀ (M : xMem) (p4 : Int32) (p5 : Int32) (p6 : Int32), r64 M p4 p5 p6 → xW G M [some (.ref (xa G 81)), none, none, none, some (.int p4), some (.int p5), some (.int p6), none, none] [] 64) {r81 : xMem → Int32 → Int32 → Int32 → Int32 → Prop} (hr81 : ∀ (M : xMem) (p4 : Int32) (p5 : Int32) (p6 : Int32) (p7 : Int32), r81 M p4 p5 p6 p7 → xW G M [some (.ref (xa G 81)), none, none, none, some (.int p4), some (.int p5), some (.int p6), some (.int p7), none] [] 81) : ∀ (M : xMem) (p4 : Int32) (p5 : Int32) (p6 : Int32) (p7 : Int32), b_X9_spreads_209 post r53 r64 r81 M p4 p5 p6 p7 → xW G M [some (.ref (xa G 81)), none, none, none, some (.int p4), some (.int p5), some (.int p6), some (.int p7), none] [] 209 := by
  intro M p4 p5 p6 p7 h
  unfold b_X9_spreads_209 at h
  refine x_iinc (v := _) hG dX9_spreads_209 rfl (x_iincE (k := 1) (by decide)) (Nat.le_of_ble_eq_true rfl) rfl ?_
  refine x_goto (tgt := 81) hG dX9_spreads_212 (by decide) ?_
  refine x_keep [true, false, false, false, true, true, true, true, false] rfl ?_
  exact hr81 _ _ _ _ _ h
set_option maxRecDepth 100000 in
set_option maxHeartbeats 4000000 in
theorem k_X9_spreads_208 {G : xG} {post : xMem → Prop} (hG : xOk G cX9_spreads RX9 wsX9_spreads rm_X9_spreads) (hQ : xRetV G post) {r53 : xMem → Int32 → Int32 → Prop} (hr53 : ∀ (M : xMem) (p4 : Int32) (p5 : Int32), r53 M p4 p5 → xW G M [some (.ref (xa G 81)), none, none, none, some (.int p4), some (.int p5), none, none, none] [] 53) {r64 : xMem → Int32 → Int32 → Int32 → Prop} (hr64 : ∀ (M : xMem) (p4 : Int32) (p5 : Int32) (p6 : Int32), r64 M p4 p5 p6 → xW G M [some (.ref (xa G 81)), none, none, none, some (.int p4), some (.int p5), some (.int p6), none, none] [] 64) {r81 : xMem → Int32 → Int32 → Int32 → Int32 → Prop} (hr81 : ∀ (M : xMem) (p4 : Int32) (p5 : Int32) (p6 : Int32) (p7 : Int32), r81 M p4 p5 p6 p7 → xW G M [some (.ref (xa G 81)), none, none, none, some (.int p4), some (.int p5), some (.int p6), some (.int p7), none] [] 81) : ∀ (M : xMem) (p4 : Int32) (p5 : Int32) (p6 : Int32) (p7 : Int32) (s0 : Nat) (s1 : Int32) (s2 : Int32), b_X9_spreads_208 post r53 r64 r81 M p4 p5 p6 p7 s0 s1 s2 → xW G M [some (.ref (xa G 81)), none, none, none, some (.int p4), some (.int p5), some (.int p6), some (.int p7), none] [.int s2, .int s1, .ref (xa G s0)] 208 := by
  intro M p4 p5 p6 p7 s0 s1 s2 h
  unfold b_X9_spreads_208 at h
  obtain ⟨hk1, h⟩ := h
  obtain ⟨hi2, h⟩ := h
  have h := h _ rfl
  refine x_iastore hG dX9_spreads_208 hk1 hi2 ?_
  refine x_keep [true, false, false, false, true, true, true, true, false] rfl ?_
  exact k_X9_spreads_209 hG hQ hr53 hr64 hr81 _ _ _ _ _ h
set_option maxRecDepth 100000 in
set_option maxHeartbeats 4000000 in
theorem k_X9_spreads_167 {G : xG} {post : xMem → Prop} (hG : xOk G cX9_spreads RX9 wsX9_spreads rm_X9_spreads) (hQ : xRetV G post) {r53 : xMem → Int32 → Int32 → Prop} (hr53 : ∀ (M : xMem) (p4 : Int32) (p5 : Int32), r53 M p4 p5 → xW G M [some (.ref (xa G 81)), none, none, none, some (.int p4), some (.int p5), none, none, none] [] 53) {r64 : xMem → Int32 → Int32 → Int32 → Prop} (hr64 : ∀ (M : xMem) (p4 : Int32) (p5 : Int32) (p6 : Int32), r64 M p4 p5 p6 → xW G M [some (.ref (xa G 81)), none, none, none, some (.int p4), some (.int p5), some (.int p6), none, none] [] 64) {r81 : xMem → Int32 → Int32 → Int32 → Int32 → Prop} (hr81 : ∀ (M : xMem) (p4 : Int32) (p5 : Int32) (p6 : Int32) (p7 : Int32), r81 M p4 p5 p6 p7 → xW G M [some (.ref (xa G 81)), none, none, none, some (.int p4), some (.int p5), some (.int p6), some (.int p7), none] [] 81) : ∀ (M : xMem) (p4 : Int32) (p6 : Int32) (p7 : Int32) (p8 : Int32) (s0 : Int32), b_X9_spreads_167 post r53 r64 r81 M p4 p6 p7 p8 s0 → xW G M [some (.ref (xa G 81)), none, none, none, some (.int p4), none, some (.int p6), some (.int p7), some (.int p8)] [.int s0] 167 := by
  intro M p4 p6 p7 p8 s0 h
  unfold b_X9_spreads_167 at h
  refine x_istore hG dX9_spreads_167 (Nat.le_of_ble_eq_true rfl) rfl ?_
  refine x_aload_n hG dX9_spreads_169 rfl rfl ?_
  refine x_get_9_24 hG dX9_spreads_170 (rfl : kd 81 = 9) hin_X9_spreads_X9 (List.mem_of_getElem? (i := 3) rfl) ?_
  refine x_iload hG dX9_spreads_173 rfl ?_
  refine x_iload hG dX9_spreads_175 rfl ?_
  refine x_iadd hG dX9_spreads_177 ?_
  refine x_iload hG dX9_spreads_178 rfl ?_
  refine x_aload_n hG dX9_spreads_180 rfl rfl ?_
  refine x_get_9_24 hG dX9_spreads_181 (rfl : kd 81 = 9) hin_X9_spreads_X9 (List.mem_of_getElem? (i := 3) rfl) ?_
  refine x_iload hG dX9_spreads_184 rfl ?_
  refine x_iload hG dX9_spreads_186 rfl ?_
  refine x_iadd hG dX9_spreads_188 ?_
  obtain ⟨hi1, h⟩ := h
  refine x_iaload hG dX9_spreads_189 (kf_9_24 (rfl : kd 81 = 9)).1 (x_inE (kf_9_24 (rfl : kd 81 = 9)).2 hi1) ?_
  refine x_icmp_le (tgt := 198) hG dX9_spreads_190 (by decide) (fun hc2 => ?_) (fun hc2 => ?_)
  · have h := h.1 hc2
    refine x_aload_n hG dX9_spreads_198 rfl rfl ?_
    refine x_get_9_24 hG dX9_spreads_199 (rfl : kd 81 = 9) hin_X9_spreads_X9 (List.mem_of_getElem? (i := 3) rfl) ?_
    refine x_iload hG dX9_spreads_202 rfl ?_
    refine x_iload hG dX9_spreads_204 rfl ?_
    refine x_iadd hG dX9_spreads_206 ?_
    refine x_iaload hG dX9_spreads_207 (kf_9_24 (rfl : kd 81 = 9)).1 (x_inE (kf_9_24 (rfl : kd 81 = 9)).2 hi1) ?_
    refine x_keep [true, false, false, false, true, true, true, true, false] rfl ?_
    exact k_X9_spreads_208 hG hQ hr53 hr64 hr81 _ _ _ _ _ _ _ _ h
  · have h := h.2 hc2
    refine x_iload hG dX9_spreads_193 rfl ?_
    refine x_goto (tgt := 208) hG dX9_spreads_195 (by decide) ?_
    refine x_keep [true, false, false, false, true, true, true, true, false] rfl ?_
    exact k_X9_spreads_208 hG hQ hr53 hr64 hr81 _ _ _ _ _ _ _ _ h
set_option maxRecDepth 100000 in
set_option maxHeartbeats 4000000 in
theorem k_X9_spreads_162 {G : xG} {post : xMem → Prop} (hG : xOk G cX9_spreads RX9 wsX9_spreads rm_X9_spreads) (hQ : xRetV G post) {r53 : xMem → Int32 → Int32 → Prop} (hr53 : ∀ (M : xMem) (p4 : Int32) (p5 : Int32), r53 M p4 p5 → xW G M [some (.ref (xa G 81)), none, none, none, some (.int p4), some (.int p5), none, none, none] [] 53) {r64 : xMem → Int32 → Int32 → Int32 → Prop} (hr64 : ∀ (M : xMem) (p4 : Int32) (p5 : Int32) (p6 : Int32), r64 M p4 p5 p6 → xW G M [some (.ref (xa G 81)), none, none, none, some (.int p4), some (.int p5), some (.int p6), none, none] [] 64) {r81 : xMem → Int32 → Int32 → Int32 → Int32 → Prop} (hr81 : ∀ (M : xMem) (p4 : Int32) (p5 : Int32) (p6 : Int32) (p7 : Int32), r81 M p4 p5 p6 p7 → xW G M [some (.ref (xa G 81)), none, none, none, some (.int p4), some (.int p5), some (.int p6), some (.int p7), none] [] 81) : ∀ (M : xMem) (p4 : Int32) (p6 : Int32) (p7 : Int32) (p8 : Int32), b_X9_spreads_162 post r53 r64 r81 M p4 p6 p7 p8 → xW G M [some (.ref (xa G 81)), none, none, none, some (.int p4), none, some (.int p6), some (.int p7), some (.int p8)] [] 162 := by
  intro M p4 p6 p7 p8 h
  unfold b_X9_spreads_162 at h
  refine x_iconst (v := (1 : Int32)) hG dX9_spreads_162 (by decide) ?_
  refine x_goto (tgt := 167) hG dX9_spreads_163 (by decide) ?_
  refine x_keep [true, false, false, false, true, false, true, true, true] rfl ?_
  exact k_X9_spreads_167 hG hQ hr53 hr64 hr81 _ _ _ _ _ _ h
set_option maxRecDepth 100000 in
set_option maxHeartbeats 4000000 in
theorem k_X9_spreads_81 {G : xG} {post : xMem → Prop} (hG : xOk G cX9_spreads RX9 wsX9_spreads rm_X9_spreads) (hQ : xRetV G post) {r53 : xMem → Int32 → Int32 → Prop} (hr53 : ∀ (M : xMem) (p4 : Int32) (p5 : Int32), r53 M p4 p5 → xW G M [some (.ref (xa G 81)), none, none, none, some (.int p4), some (.int p5), none, none, none] [] 53) {r64 : xMem → Int32 → Int32 → Int32 → Prop} (hr64 : ∀ (M : xMem) (p4 : Int32) (p5 : Int32) (p6 : Int32), r64 M p4 p5 p6 → xW G M [some (.ref (xa G 81)), none, none, none, some (.int p4), some (.int p5), some (.int p6), none, none] [] 64) : ∀ (M : xMem) (p4 : Int32) (p5 : Int32) (p6 : Int32) (p7 : Int32), xlp5 (b_X9_spreads_81 post r53 r64) M p4 p5 p6 p7 → xW G M [some (.ref (xa G 81)), none, none, none, some (.int p4), some (.int p5), some (.int p6), some (.int p7), none] [] 81 := by
  refine xlp5_W (W := fun M p4 p5 p6 p7 => xW G M [some (.ref (xa G 81)), none, none, none, some (.int p4), some (.int p5), some (.int p6), some (.int p7), none] [] 81) (fun r81 hr81 => ?_)
  intro M p4 p5 p6 p7 h
  unfold b_X9_spreads_81 at h
  refine x_iload hG dX9_spreads_81 rfl ?_
  refine x_aload_n hG dX9_spreads_83 rfl rfl ?_
  refine x_get_9_9 hG dX9_spreads_84 (rfl : kd 81 = 9) hin_X9_spreads_X9 (List.mem_of_getElem? (i := 1) rfl) ?_
  refine x_aload_n hG dX9_spreads_87 rfl rfl ?_
  refine x_get_9_10 hG dX9_spreads_88 (rfl : kd 81 = 9) hin_X9_spreads_X9 (List.mem_of_getElem? (i := 2) rfl) ?_
  refine x_imul hG dX9_spreads_91 ?_
  refine x_icmp_ge (tgt := 215) hG dX9_spreads_92 (by decide) (fun hc1 => ?_) (fun hc1 => ?_)
  · have h := h.1 hc1
    refine x_iinc (v := _) hG dX9_spreads_215 rfl (x_iincE (k := 1) (by decide)) (Nat.le_of_ble_eq_true rfl) rfl ?_
    refine x_goto (tgt := 64) hG dX9_spreads_218 (by decide) ?_
    refine x_keep [true, false, false, false, true, true, true, false, false] rfl ?_
    exact hr64 _ _ _ _ h
  · have h := h.2 hc1
    refine x_aload_n hG dX9_spreads_95 rfl rfl ?_
    refine x_get_9_24 hG dX9_spreads_96 (rfl : kd 81 = 9) hin_X9_spreads_X9 (List.mem_of_getElem? (i := 3) rfl) ?_
    refine x_iload hG dX9_spreads_99 rfl ?_
    refine x_iload hG dX9_spreads_101 rfl ?_
    refine x_iadd hG dX9_spreads_103 ?_
    obtain ⟨hi2, h⟩ := h
    refine x_iaload hG dX9_spreads_104 (kf_9_24 (rfl : kd 81 = 9)).1 (x_inE (kf_9_24 (rfl : kd 81 = 9)).2 hi2) ?_
    refine x_if_le (tgt := 209) hG dX9_spreads_105 (by decide) (fun hc3 => ?_) (fun hc3 => ?_)
    · have h := h.1 hc3
      refine x_keep [true, false, false, false, true, true, true, true, false] rfl ?_
      exact k_X9_spreads_209 hG hQ hr53 hr64 hr81 _ _ _ _ _ h
    · have h := h.2 hc3
      refine x_iload hG dX9_spreads_108 rfl ?_
      refine x_iload hG dX9_spreads_110 rfl ?_
      refine x_aload_n hG dX9_spreads_112 rfl rfl ?_
      refine x_get_9_9 hG dX9_spreads_113 (rfl : kd 81 = 9) hin_X9_spreads_X9 (List.mem_of_getElem? (i := 1) rfl) ?_
      refine x_cSI3 hG dX9_spreads_116 (fun ha => c_X9_areBeside ha h) gX9_spreads_X9_areBeside rfl ⟨rfl, rfl⟩ hy_X9_areBeside ⟨Nat.le_of_ble_eq_true rfl, Nat.le_of_ble_eq_true rfl⟩ (Nat.le_of_ble_eq_true rfl) (fun z4 M5 h => ?_)
      refine x_if_eq (tgt := 209) hG dX9_spreads_119 (by decide) (fun hc6 => ?_) (fun hc6 => ?_)
      · have h := h.1 hc6
        refine x_keep [true, false, false, false, true, true, true, true, false] rfl ?_
        exact k_X9_spreads_209 hG hQ hr53 hr64 hr81 _ _ _ _ _ h
      · have h := h.2 hc6
        refine x_aload_n hG dX9_spreads_122 rfl rfl ?_
        refine x_aload_n hG dX9_spreads_123 rfl rfl ?_
        refine x_get_9_24 hG dX9_spreads_124 (rfl : kd 81 = 9) hin_X9_spreads_X9 (List.mem_of_getElem? (i := 3) rfl) ?_
        refine x_iload hG dX9_spreads_127 rfl ?_
        refine x_iload hG dX9_spreads_129 rfl ?_
        refine x_iadd hG dX9_spreads_131 ?_
        refine x_iaload hG dX9_spreads_132 (kf_9_24 (rfl : kd 81 = 9)).1 (x_inE (kf_9_24 (rfl : kd 81 = 9)).2 hi2) ?_
        refine x_iload hG dX9_spreads_133 rfl ?_
        refine x_iload hG dX9_spreads_135 rfl ?_
        refine x_cVI3 hG dX9_spreads_137 (fun ha => c_X9_passes ha h) gX9_spreads_X9_passes rfl ⟨rfl, rfl⟩ hy_X9_passes ⟨Nat.le_of_ble_eq_true rfl, Nat.le_of_ble_eq_true rfl⟩ (kd_lt (rfl : kd 81 = 9) (by decide)) (fun _ => xc_9 (rfl : kd 81 = 9)) rfl (Nat.le_of_ble_eq_true rfl) (fun z7 M8 h => ?_)
        refine x_istore hG dX9_spreads_140 (Nat.le_of_ble_eq_true rfl) rfl ?_
        refine x_iload hG dX9_spreads_142 rfl ?_
        refine x_if_ne (tgt := 162) hG dX9_spreads_144 (by decide) (fun hc9 => ?_) (fun hc9 => ?_)
        · have h := h.1 hc9
          refine x_keep [true, false, false, false, true, false, true, true, true] rfl ?_
          exact k_X9_spreads_162 hG hQ hr53 hr64 hr81 _ _ _ _ _ h
        · have h := h.2 hc9
          refine x_iload hG dX9_spreads_147 rfl ?_
          refine x_aload_n hG dX9_spreads_149 rfl rfl ?_
          refine x_get_9_24 hG dX9_spreads_150 (rfl : kd 81 = 9) hin_X9_spreads_X9 (List.mem_of_getElem? (i := 3) rfl) ?_
          refine x_iload hG dX9_spreads_153 rfl ?_
          refine x_iload hG dX9_spreads_155 rfl ?_
          refine x_iadd hG dX9_spreads_157 ?_
          obtain ⟨hi10, h⟩ := h
          refine x_iaload hG dX9_spreads_158 (kf_9_24 (rfl : kd 81 = 9)).1 (x_inE (kf_9_24 (rfl : kd 81 = 9)).2 hi10) ?_
          refine x_icmp_le (tgt := 166) hG dX9_spreads_159 (by decide) (fun hc11 => ?_) (fun hc11 => ?_)
          · have h := h.1 hc11
            refine x_iconst (v := (0 : Int32)) hG dX9_spreads_166 (by decide) ?_
            refine x_keep [true, false, false, false, true, false, true, true, true] rfl ?_
            exact k_X9_spreads_167 hG hQ hr53 hr64 hr81 _ _ _ _ _ _ h
          · have h := h.2 hc11
            refine x_keep [true, false, false, false, true, false, true, true, true] rfl ?_
            exact k_X9_spreads_162 hG hQ hr53 hr64 hr81 _ _ _ _ _ h
set_option maxRecDepth 100000 in
set_option maxHeartbeats 4000000 in
theorem k_X9_spreads_64 {G : xG} {post : xMem → Prop} (hG : xOk G cX9_spreads RX9 wsX9_spreads rm_X9_spreads) (hQ : xRetV G post) {r53 : xMem → Int32 → Int32 → Prop} (hr53 : ∀ (M : xMem) (p4 : Int32) (p5 : Int32), r53 M p4 p5 → xW G M [some (.ref (xa G 81)), none, none, none, some (.int p4), some (.int p5), none, none, none] [] 53) : ∀ (M : xMem) (p4 : Int32) (p5 : Int32) (p6 : Int32), xlp4 (b_X9_spreads_64 post r53) M p4 p5 p6 → xW G M [some (.ref (xa G 81)), none, none, none, some (.int p4), some (.int p5), some (.int p6), none, none] [] 64 := by
  refine xlp4_W (W := fun M p4 p5 p6 => xW G M [some (.ref (xa G 81)), none, none, none, some (.int p4), some (.int p5), some (.int p6), none, none] [] 64) (fun r64 hr64 => ?_)
  intro M p4 p5 p6 h
  unfold b_X9_spreads_64 at h
  refine x_iload hG dX9_spreads_64 rfl ?_
  refine x_aload_n hG dX9_spreads_66 rfl rfl ?_
  refine x_get_9_9 hG dX9_spreads_67 (rfl : kd 81 = 9) hin_X9_spreads_X9 (List.mem_of_getElem? (i := 1) rfl) ?_
  refine x_aload_n hG dX9_spreads_70 rfl rfl ?_
  refine x_get_9_10 hG dX9_spreads_71 (rfl : kd 81 = 9) hin_X9_spreads_X9 (List.mem_of_getElem? (i := 2) rfl) ?_
  refine x_imul hG dX9_spreads_74 ?_
  refine x_icmp_ge (tgt := 221) hG dX9_spreads_75 (by decide) (fun hc1 => ?_) (fun hc1 => ?_)
  · have h := h.1 hc1
    refine x_goto (tgt := 53) hG dX9_spreads_221 (by decide) ?_
    refine x_keep [true, false, false, false, true, true, false, false, false] rfl ?_
    exact hr53 _ _ _ h
  · have h := h.2 hc1
    refine x_iconst (v := (0 : Int32)) hG dX9_spreads_78 (by decide) ?_
    refine x_istore hG dX9_spreads_79 (Nat.le_of_ble_eq_true rfl) rfl ?_
    refine x_keep [true, false, false, false, true, true, true, true, false] rfl ?_
    exact k_X9_spreads_81 hG hQ hr53 hr64 _ _ _ _ _ h
set_option maxRecDepth 100000 in
set_option maxHeartbeats 4000000 in
theorem k_X9_spreads_53 {G : xG} {post : xMem → Prop} (hG : xOk G cX9_spreads RX9 wsX9_spreads rm_X9_spreads) (hQ : xRetV G post) : ∀ (M : xMem) (p4 : Int32) (p5 : Int32), xlp3 (b_X9_spreads_53 post) M p4 p5 → xW G M [some (.ref (xa G 81)), none, none, none, some (.int p4), some (.int p5), none, none, none] [] 53 := by
  refine xlp3_W (W := fun M p4 p5 => xW G M [some (.ref (xa G 81)), none, none, none, some (.int p4), some (.int p5), none, none, none] [] 53) (fun r53 hr53 => ?_)
  intro M p4 p5 h
  unfold b_X9_spreads_53 at h
  refine x_iload hG dX9_spreads_53 rfl ?_
  refine x_if_eq (tgt := 224) hG dX9_spreads_55 (by decide) (fun hc1 => ?_) (fun hc1 => ?_)
  · have h := h.1 hc1
    exact x_vret hG hQ dX9_spreads_224 h
  · have h := h.2 hc1
    refine x_iconst (v := (0 : Int32)) hG dX9_spreads_58 (by decide) ?_
    refine x_istore hG dX9_spreads_59 (Nat.le_of_ble_eq_true rfl) rfl ?_
    refine x_iconst (v := (0 : Int32)) hG dX9_spreads_61 (by decide) ?_
    refine x_istore hG dX9_spreads_62 (Nat.le_of_ble_eq_true rfl) rfl ?_
    refine x_keep [true, false, false, false, true, true, true, false, false] rfl ?_
    exact k_X9_spreads_64 hG hQ hr53 _ _ _ _ h
set_option maxRecDepth 100000 in
set_option maxHeartbeats 4000000 in
theorem k_X9_spreads_43 {G : xG} {post : xMem → Prop} (hG : xOk G cX9_spreads RX9 wsX9_spreads rm_X9_spreads) (hQ : xRetV G post) {r9 : xMem → Int32 → Int32 → Int32 → Int32 → Prop} (hr9 : ∀ (M : xMem) (p2 : Int32) (p3 : Int32) (p4 : Int32) (p5 : Int32), r9 M p2 p3 p4 p5 → xW G M [some (.ref (xa G 81)), none, some (.int p2), some (.int p3), some (.int p4), some (.int p5), none, none, none] [] 9) : ∀ (M : xMem) (p2 : Int32) (p3 : Int32) (p4 : Int32) (p5 : Int32) (s0 : Nat) (s1 : Int32) (s2 : Int32), b_X9_spreads_43 post r9 M p2 p3 p4 p5 s0 s1 s2 → xW G M [some (.ref (xa G 81)), none, some (.int p2), some (.int p3), some (.int p4), some (.int p5), none, none, none] [.int s2, .int s1, .ref (xa G s0)] 43 := by
  intro M p2 p3 p4 p5 s0 s1 s2 h
  unfold b_X9_spreads_43 at h
  obtain ⟨hk1, h⟩ := h
  obtain ⟨hi2, h⟩ := h
  have h := h _ rfl
  refine x_iastore hG dX9_spreads_43 hk1 hi2 ?_
  refine x_iinc (v := _) hG dX9_spreads_44 rfl (x_iincE (k := 1) (by decide)) (Nat.le_of_ble_eq_true rfl) rfl ?_
  refine x_goto (tgt := 9) hG dX9_spreads_47 (by decide) ?_
  refine x_keep [true, false, true, true, true, true, false, false, false] rfl ?_
  exact hr9 _ _ _ _ _ h
set_option maxRecDepth 100000 in
set_option maxHeartbeats 4000000 in
theorem k_X9_spreads_9 {G : xG} {post : xMem → Prop} (hG : xOk G cX9_spreads RX9 wsX9_spreads rm_X9_spreads) (hQ : xRetV G post) : ∀ (M : xMem) (p2 : Int32) (p3 : Int32) (p4 : Int32) (p5 : Int32), xlp5 (b_X9_spreads_9 post) M p2 p3 p4 p5 → xW G M [some (.ref (xa G 81)), none, some (.int p2), some (.int p3), some (.int p4), some (.int p5), none, none, none] [] 9 := by
  refine xlp5_W (W := fun M p2 p3 p4 p5 => xW G M [some (.ref (xa G 81)), none, some (.int p2), some (.int p3), some (.int p4), some (.int p5), none, none, none] [] 9) (fun r9 hr9 => ?_)
  intro M p2 p3 p4 p5 h
  unfold b_X9_spreads_9 at h
  refine x_iload hG dX9_spreads_9 rfl ?_
  refine x_aload_n hG dX9_spreads_11 rfl rfl ?_
  refine x_get_9_9 hG dX9_spreads_12 (rfl : kd 81 = 9) hin_X9_spreads_X9 (List.mem_of_getElem? (i := 1) rfl) ?_
  refine x_aload_n hG dX9_spreads_15 rfl rfl ?_
  refine x_get_9_10 hG dX9_spreads_16 (rfl : kd 81 = 9) hin_X9_spreads_X9 (List.mem_of_getElem? (i := 2) rfl) ?_
  refine x_imul hG dX9_spreads_19 ?_
  refine x_icmp_ge (tgt := 50) hG dX9_spreads_20 (by decide) (fun hc1 => ?_) (fun hc1 => ?_)
  · have h := h.1 hc1
    refine x_iconst (v := (1 : Int32)) hG dX9_spreads_50 (by decide) ?_
    refine x_istore hG dX9_spreads_51 (Nat.le_of_ble_eq_true rfl) rfl ?_
    refine x_keep [true, false, false, false, true, true, false, false, false] rfl ?_
    exact k_X9_spreads_53 hG hQ _ _ _ h
  · have h := h.2 hc1
    refine x_aload_n hG dX9_spreads_23 rfl rfl ?_
    refine x_get_9_24 hG dX9_spreads_24 (rfl : kd 81 = 9) hin_X9_spreads_X9 (List.mem_of_getElem? (i := 3) rfl) ?_
    refine x_iload hG dX9_spreads_27 rfl ?_
    refine x_iload hG dX9_spreads_29 rfl ?_
    refine x_iadd hG dX9_spreads_31 ?_
    refine x_iload hG dX9_spreads_32 rfl ?_
    refine x_iload_n hG dX9_spreads_34 rfl rfl ?_
    refine x_icmp_ne (tgt := 42) hG dX9_spreads_35 (by decide) (fun hc2 => ?_) (fun hc2 => ?_)
    · have h := h.1 hc2
      refine x_iconst (v := (0 : Int32)) hG dX9_spreads_42 (by decide) ?_
      refine x_keep [true, false, true, true, true, true, false, false, false] rfl ?_
      exact k_X9_spreads_43 hG hQ hr9 _ _ _ _ _ _ _ _ h
    · have h := h.2 hc2
      refine x_iload_n hG dX9_spreads_38 rfl rfl ?_
      refine x_goto (tgt := 43) hG dX9_spreads_39 (by decide) ?_
      refine x_keep [true, false, true, true, true, true, false, false, false] rfl ?_
      exact k_X9_spreads_43 hG hQ hr9 _ _ _ _ _ _ _ _ h
set_option maxRecDepth 100000 in
set_option maxHeartbeats 4000000 in
theorem c_X9_spreads {l : Launch} {a : Nat → Nat} {M : xMem} {p1 : Int32} {p2 : Int32} {p3 : Int32} {post : xMem → Prop} (ha : xInj a) (h : w_X9_spreads M p1 p2 p3 post) : ∀ D cs sz, xMetV l yX9_spreads wsX9_spreads rm_X9_spreads D a cs sz M [.ref (a 81), .int p1, .int p2, .int p3] post := by
  intro D cs sz
  unfold w_X9_spreads at h
  refine x_metV [some (.ref (a 81)), some (.int p1), some (.int p2), some (.int p3), none, none, none, none, none] (by decide) rfl rfl (Nat.le_of_ble_eq_true rfl) rfl rfl ha D cs sz rfl (fun G e1 e2 hG hQ => ?_)
  subst e1
  subst e2
  refine x_bipush (v := (48 : Int32)) hG dX9_spreads_0 (by decide) ?_
  refine x_iload_n hG dX9_spreads_2 rfl rfl ?_
  refine x_imul hG dX9_spreads_3 ?_
  refine x_istore hG dX9_spreads_4 (Nat.le_of_ble_eq_true rfl) rfl ?_
  refine x_iconst (v := (0 : Int32)) hG dX9_spreads_6 (by decide) ?_
  refine x_istore hG dX9_spreads_7 (Nat.le_of_ble_eq_true rfl) rfl ?_
  refine x_keep [true, false, true, true, true, true, false, false, false] rfl ?_
  exact k_X9_spreads_9 hG hQ _ _ _ _ _ h
abbrev rm_X9_spreadsAll : Room := { frames := 4, cells := 0, slots := 0, locals := 101 }
theorem hy_X9_spreadsAll : yX9_spreadsAll.cls = RX9 ∧ yX9_spreadsAll.cls ≠ "java/lang/invoke/MethodHandle" ∧ yX9_spreadsAll.cls ≠ "java/lang/invoke/VarHandle" ∧ (parseMethodDescriptor yX9_spreadsAll.desc).map (fun d => d.parameters.length) = some 0 := by decide +kernel
theorem hin_X9_spreadsAll_X9 : ∀ w ∈ wsX90, w ∈ wsX9_spreadsAll := fun _ h => List.mem_cons_of_mem _ (List.mem_append_right _ h)
set_option maxRecDepth 100000 in
set_option maxHeartbeats 4000000 in
theorem k_X9_spreadsAll_2 {G : xG} {post : xMem → Prop} (hG : xOk G cX9_spreadsAll RX9 wsX9_spreadsAll rm_X9_spreadsAll) (hQ : xRetV G post) : ∀ (M : xMem) (p1 : Int32), xlp2 (b_X9_spreadsAll_2 post) M p1 → xW G M [some (.ref (xa G 81)), some (.int p1)] [] 2 := by
  refine xlp2_W (W := fun M p1 => xW G M [some (.ref (xa G 81)), some (.int p1)] [] 2) (fun r2 hr2 => ?_)
  intro M p1 h
  unfold b_X9_spreadsAll_2 at h
  refine x_iload_n hG dX9_spreadsAll_2 rfl rfl ?_
  refine x_aload_n hG dX9_spreadsAll_3 rfl rfl ?_
  refine x_get_9_20 hG dX9_spreadsAll_4 (rfl : kd 81 = 9) hin_X9_spreadsAll_X9 (List.mem_of_getElem? (i := 1) rfl) ?_
  refine x_icmp_ge (tgt := 39) hG dX9_spreadsAll_7 (by decide) (fun hc1 => ?_) (fun hc1 => ?_)
  · have h := h.1 hc1
    exact x_vret hG hQ dX9_spreadsAll_39 h
  · have h := h.2 hc1
    refine x_aload_n hG dX9_spreadsAll_10 rfl rfl ?_
    refine x_iload_n hG dX9_spreadsAll_11 rfl rfl ?_
    refine x_aload_n hG dX9_spreadsAll_12 rfl rfl ?_
    refine x_get_9_18 hG dX9_spreadsAll_13 (rfl : kd 81 = 9) hin_X9_spreadsAll_X9 (List.mem_of_getElem? (i := 2) rfl) ?_
    refine x_iconst (v := (4 : Int32)) hG dX9_spreadsAll_16 (by decide) ?_
    refine x_iload_n hG dX9_spreadsAll_17 rfl rfl ?_
    refine x_imul hG dX9_spreadsAll_18 ?_
    obtain ⟨hi2, h⟩ := h
    refine x_iaload hG dX9_spreadsAll_19 (kf_9_18 (rfl : kd 81 = 9)).1 (x_inE (kf_9_18 (rfl : kd 81 = 9)).2 hi2) ?_
    refine x_aload_n hG dX9_spreadsAll_20 rfl rfl ?_
    refine x_get_9_18 hG dX9_spreadsAll_21 (rfl : kd 81 = 9) hin_X9_spreadsAll_X9 (List.mem_of_getElem? (i := 2) rfl) ?_
    refine x_iconst (v := (4 : Int32)) hG dX9_spreadsAll_24 (by decide) ?_
    refine x_iload_n hG dX9_spreadsAll_25 rfl rfl ?_
    refine x_imul hG dX9_spreadsAll_26 ?_
    refine x_iconst (v := (1 : Int32)) hG dX9_spreadsAll_27 (by decide) ?_
    refine x_iadd hG dX9_spreadsAll_28 ?_
    obtain ⟨hi3, h⟩ := h
    refine x_iaload hG dX9_spreadsAll_29 (kf_9_18 (rfl : kd 81 = 9)).1 (x_inE (kf_9_18 (rfl : kd 81 = 9)).2 hi3) ?_
    refine x_cVV3 hG dX9_spreadsAll_30 (fun ha => c_X9_spreads ha h) gX9_spreadsAll_X9_spreads rfl ⟨rfl, rfl⟩ hy_X9_spreads ⟨Nat.le_of_ble_eq_true rfl, Nat.le_of_ble_eq_true rfl⟩ (kd_lt (rfl : kd 81 = 9) (by decide)) (fun _ => xc_9 (rfl : kd 81 = 9)) rfl (Nat.le_of_ble_eq_true rfl) (fun M5 h => ?_)
    refine x_iinc (v := _) hG dX9_spreadsAll_33 rfl (x_iincE (k := 1) (by decide)) (Nat.le_of_ble_eq_true rfl) rfl ?_
    refine x_goto (tgt := 2) hG dX9_spreadsAll_36 (by decide) ?_
    refine x_keep [true, true] rfl ?_
    exact hr2 _ _ h
set_option maxRecDepth 100000 in
set_option maxHeartbeats 4000000 in
theorem c_X9_spreadsAll {l : Launch} {a : Nat → Nat} {M : xMem} {post : xMem → Prop} (ha : xInj a) (h : w_X9_spreadsAll M post) : ∀ D cs sz, xMetV l yX9_spreadsAll wsX9_spreadsAll rm_X9_spreadsAll D a cs sz M [.ref (a 81)] post := by
  intro D cs sz
  unfold w_X9_spreadsAll at h
  refine x_metV [some (.ref (a 81)), none] (by decide) rfl rfl (Nat.le_of_ble_eq_true rfl) rfl rfl ha D cs sz rfl (fun G e1 e2 hG hQ => ?_)
  subst e1
  subst e2
  refine x_iconst (v := (0 : Int32)) hG dX9_spreadsAll_0 (by decide) ?_
  refine x_istore_n hG dX9_spreadsAll_1 rfl (Nat.le_of_ble_eq_true rfl) rfl ?_
  refine x_keep [true, true] rfl ?_
  exact k_X9_spreadsAll_2 hG hQ _ _ h
abbrev rm_X9_loud : Room := { frames := 4, cells := 0, slots := 0, locals := 101 }
theorem hy_X9_loud : yX9_loud.cls = RX9 ∧ yX9_loud.cls ≠ "java/lang/invoke/MethodHandle" ∧ yX9_loud.cls ≠ "java/lang/invoke/VarHandle" ∧ (parseMethodDescriptor yX9_loud.desc).map (fun d => d.parameters.length) = some 2 := by decide +kernel
theorem hin_X9_loud_X9 : ∀ w ∈ wsX90, w ∈ wsX9_loud := fun _ h => List.mem_cons_of_mem _ (List.mem_append_right _ h)
set_option maxRecDepth 100000 in
set_option maxHeartbeats 4000000 in
theorem c_X9_loud {l : Launch} {a : Nat → Nat} {M : xMem} {p1 : Int32} {p2 : Int32} {post : Int32 → xMem → Prop} (ha : xInj a) (h : w_X9_loud M p1 p2 post) : ∀ D cs sz, xMetI l yX9_loud wsX9_loud rm_X9_loud D a cs sz M [.ref (a 81), .int p1, .int p2] post := by
  intro D cs sz
  unfold w_X9_loud at h
  refine x_metI (ty := .int) [some (.ref (a 81)), some (.int p1), some (.int p2)] (by decide) rfl rfl (Nat.le_of_ble_eq_true rfl) rfl rfl ha D cs sz rfl (fun G e1 e2 hG hQ => ?_)
  subst e1
  subst e2
  refine x_aload_n hG dX9_loud_0 rfl rfl ?_
  refine x_iconst (v := (0 : Int32)) hG dX9_loud_1 (by decide) ?_
  have h := h _ rfl
  refine x_put_9_0 hG dX9_loud_2 (rfl : kd 81 = 9) hin_X9_loud_X9 (List.mem_of_getElem? (i := 1) rfl) ?_
  refine x_aload_n hG dX9_loud_5 rfl rfl ?_
  refine x_iload_n hG dX9_loud_6 rfl rfl ?_
  refine x_cVI1 hG dX9_loud_7 (fun ha => c_X9_isWorker ha h) gX9_loud_X9_isWorker rfl ⟨rfl, rfl⟩ hy_X9_isWorker ⟨Nat.le_of_ble_eq_true rfl, Nat.le_of_ble_eq_true rfl⟩ (kd_lt (rfl : kd 81 = 9) (by decide)) (fun _ => xc_9 (rfl : kd 81 = 9)) rfl (Nat.le_of_ble_eq_true rfl) (fun z2 M3 h => ?_)
  refine x_if_eq (tgt := 21) hG dX9_loud_10 (by decide) (fun hc4 => ?_) (fun hc4 => ?_)
  · have h := h.1 hc4
    refine x_iconst (v := (-1 : Int32)) hG dX9_loud_21 (by decide) ?_
    exact x_iret hG hQ dX9_loud_22 rfl h
  · have h := h.2 hc4
    refine x_aload_n hG dX9_loud_13 rfl rfl ?_
    refine x_iload_n hG dX9_loud_14 rfl rfl ?_
    refine x_cVI1 hG dX9_loud_15 (fun ha => c_X9_isYard ha h) gX9_loud_X9_isYard rfl ⟨rfl, rfl⟩ hy_X9_isYard ⟨Nat.le_of_ble_eq_true rfl, Nat.le_of_ble_eq_true rfl⟩ (kd_lt (rfl : kd 81 = 9) (by decide)) (fun _ => xc_9 (rfl : kd 81 = 9)) rfl (Nat.le_of_ble_eq_true rfl) (fun z5 M6 h => ?_)
    refine x_if_ne (tgt := 23) hG dX9_loud_18 (by decide) (fun hc7 => ?_) (fun hc7 => ?_)
    · have h := h.1 hc7
      refine x_aload_n hG dX9_loud_23 rfl rfl ?_
      refine x_iload_n hG dX9_loud_24 rfl rfl ?_
      refine x_aload_n hG dX9_loud_25 rfl rfl ?_
      refine x_get_9_18 hG dX9_loud_26 (rfl : kd 81 = 9) hin_X9_loud_X9 (List.mem_of_getElem? (i := 2) rfl) ?_
      refine x_iconst (v := (4 : Int32)) hG dX9_loud_29 (by decide) ?_
      refine x_iload_n hG dX9_loud_30 rfl rfl ?_
      refine x_imul hG dX9_loud_31 ?_
      obtain ⟨hi8, h⟩ := h
      refine x_iaload hG dX9_loud_32 (kf_9_18 (rfl : kd 81 = 9)).1 (x_inE (kf_9_18 (rfl : kd 81 = 9)).2 hi8) ?_
      refine x_aload_n hG dX9_loud_33 rfl rfl ?_
      refine x_get_9_18 hG dX9_loud_34 (rfl : kd 81 = 9) hin_X9_loud_X9 (List.mem_of_getElem? (i := 2) rfl) ?_
      refine x_iconst (v := (4 : Int32)) hG dX9_loud_37 (by decide) ?_
      refine x_iload_n hG dX9_loud_38 rfl rfl ?_
      refine x_imul hG dX9_loud_39 ?_
      refine x_iconst (v := (1 : Int32)) hG dX9_loud_40 (by decide) ?_
      refine x_iadd hG dX9_loud_41 ?_
      obtain ⟨hi9, h⟩ := h
      refine x_iaload hG dX9_loud_42 (kf_9_18 (rfl : kd 81 = 9)).1 (x_inE (kf_9_18 (rfl : kd 81 = 9)).2 hi9) ?_
      refine x_cVV3 hG dX9_loud_43 (fun ha => c_X9_spreads ha h) gX9_loud_X9_spreads rfl ⟨rfl, rfl⟩ hy_X9_spreads ⟨Nat.le_of_ble_eq_true rfl, Nat.le_of_ble_eq_true rfl⟩ (kd_lt (rfl : kd 81 = 9) (by decide)) (fun _ => xc_9 (rfl : kd 81 = 9)) rfl (Nat.le_of_ble_eq_true rfl) (fun M11 h => ?_)
      refine x_aload_n hG dX9_loud_46 rfl rfl ?_
      refine x_get_9_24 hG dX9_loud_47 (rfl : kd 81 = 9) hin_X9_loud_X9 (List.mem_of_getElem? (i := 3) rfl) ?_
      refine x_bipush (v := (48 : Int32)) hG dX9_loud_50 (by decide) ?_
      refine x_iload_n hG dX9_loud_52 rfl rfl ?_
      refine x_imul hG dX9_loud_53 ?_
      refine x_iload_n hG dX9_loud_54 rfl rfl ?_
      refine x_iadd hG dX9_loud_55 ?_
      obtain ⟨hi12, h⟩ := h
      refine x_iaload hG dX9_loud_56 (kf_9_24 (rfl : kd 81 = 9)).1 (x_inE (kf_9_24 (rfl : kd 81 = 9)).2 hi12) ?_
      exact x_iret hG hQ dX9_loud_57 rfl h
    · have h := h.2 hc7
      refine x_iconst (v := (-1 : Int32)) hG dX9_loud_21 (by decide) ?_
      exact x_iret hG hQ dX9_loud_22 rfl h
abbrev rm_X9_heardBy : Room := { frames := 0, cells := 0, slots := 0, locals := 0 }
theorem hy_X9_heardBy : yX9_heardBy.cls = RX9 ∧ yX9_heardBy.cls ≠ "java/lang/invoke/MethodHandle" ∧ yX9_heardBy.cls ≠ "java/lang/invoke/VarHandle" ∧ (parseMethodDescriptor yX9_heardBy.desc).map (fun d => d.parameters.length) = some 3 := by decide +kernel
theorem hin_X9_heardBy_X9 : ∀ w ∈ wsX90, w ∈ wsX9_heardBy := fun _ h => List.mem_cons_of_mem _ (List.mem_append_right _ h)
set_option maxRecDepth 100000 in
set_option maxHeartbeats 4000000 in
theorem k_X9_heardBy_72 {G : xG} {post : Int32 → xMem → Prop} (hG : xOk G cX9_heardBy RX9 wsX9_heardBy rm_X9_heardBy) (hQ : xRetI G post .int) {r6 : xMem → Int32 → Int32 → Int32 → Int32 → Int32 → Prop} (hr6 : ∀ (M : xMem) (p1 : Int32) (p2 : Int32) (p3 : Int32) (p4 : Int32) (p5 : Int32), r6 M p1 p2 p3 p4 p5 → xW G M [some (.ref (xa G 81)), some (.int p1), some (.int p2), some (.int p3), some (.int p4), some (.int p5), none] [] 6) : ∀ (M : xMem) (p1 : Int32) (p2 : Int32) (p3 : Int32) (p5 : Int32) (s0 : Int32) (s1 : Int32), b_X9_heardBy_72 post r6 M p1 p2 p3 p5 s0 s1 → xW G M [some (.ref (xa G 81)), some (.int p1), some (.int p2), some (.int p3), none, some (.int p5), none] [.int s1, .int s0] 72 := by
  intro M p1 p2 p3 p5 s0 s1 h
  unfold b_X9_heardBy_72 at h
  refine x_iadd hG dX9_heardBy_72 ?_
  refine x_istore hG dX9_heardBy_73 (Nat.le_of_ble_eq_true rfl) rfl ?_
  refine x_iinc (v := _) hG dX9_heardBy_75 rfl (x_iincE (k := 1) (by decide)) (Nat.le_of_ble_eq_true rfl) rfl ?_
  refine x_goto (tgt := 6) hG dX9_heardBy_78 (by decide) ?_
  refine x_keep [true, true, true, true, true, true, false] rfl ?_
  exact hr6 _ _ _ _ _ _ h
set_option maxRecDepth 100000 in
set_option maxHeartbeats 4000000 in
theorem k_X9_heardBy_47 {G : xG} {post : Int32 → xMem → Prop} (hG : xOk G cX9_heardBy RX9 wsX9_heardBy rm_X9_heardBy) (hQ : xRetI G post .int) {r6 : xMem → Int32 → Int32 → Int32 → Int32 → Int32 → Prop} (hr6 : ∀ (M : xMem) (p1 : Int32) (p2 : Int32) (p3 : Int32) (p4 : Int32) (p5 : Int32), r6 M p1 p2 p3 p4 p5 → xW G M [some (.ref (xa G 81)), some (.int p1), some (.int p2), some (.int p3), some (.int p4), some (.int p5), none] [] 6) : ∀ (M : xMem) (p1 : Int32) (p2 : Int32) (p3 : Int32) (p4 : Int32) (p5 : Int32) (s0 : Int32), b_X9_heardBy_47 post r6 M p1 p2 p3 p4 p5 s0 → xW G M [some (.ref (xa G 81)), some (.int p1), some (.int p2), some (.int p3), some (.int p4), some (.int p5), none] [.int s0] 47 := by
  intro M p1 p2 p3 p4 p5 s0 h
  unfold b_X9_heardBy_47 at h
  refine x_istore hG dX9_heardBy_47 (Nat.le_of_ble_eq_true rfl) rfl ?_
  refine x_iload hG dX9_heardBy_49 rfl ?_
  refine x_iload hG dX9_heardBy_51 rfl ?_
  refine x_if_eq (tgt := 71) hG dX9_heardBy_53 (by decide) (fun hc1 => ?_) (fun hc1 => ?_)
  · have h := h.1 hc1
    refine x_iconst (v := (0 : Int32)) hG dX9_heardBy_71 (by decide) ?_
    refine x_keep [true, true, true, true, false, true, false] rfl ?_
    exact k_X9_heardBy_72 hG hQ hr6 _ _ _ _ _ _ _ h
  · have h := h.2 hc1
    refine x_aload_n hG dX9_heardBy_56 rfl rfl ?_
    refine x_get_9_24 hG dX9_heardBy_57 (rfl : kd 81 = 9) hin_X9_heardBy_X9 (List.mem_of_getElem? (i := 3) rfl) ?_
    refine x_bipush (v := (48 : Int32)) hG dX9_heardBy_60 (by decide) ?_
    refine x_iload hG dX9_heardBy_62 rfl ?_
    refine x_imul hG dX9_heardBy_64 ?_
    refine x_iload_n hG dX9_heardBy_65 rfl rfl ?_
    refine x_iadd hG dX9_heardBy_66 ?_
    obtain ⟨hi2, h⟩ := h
    refine x_iaload hG dX9_heardBy_67 (kf_9_24 (rfl : kd 81 = 9)).1 (x_inE (kf_9_24 (rfl : kd 81 = 9)).2 hi2) ?_
    refine x_goto (tgt := 72) hG dX9_heardBy_68 (by decide) ?_
    refine x_keep [true, true, true, true, false, true, false] rfl ?_
    exact k_X9_heardBy_72 hG hQ hr6 _ _ _ _ _ _ _ h
set_option maxRecDepth 100000 in
set_option maxHeartbeats 4000000 in
theorem k_X9_heardBy_46 {G : xG} {post : Int32 → xMem → Prop} (hG : xOk G cX9_heardBy RX9 wsX9_heardBy rm_X9_heardBy) (hQ : xRetI G post .int) {r6 : xMem → Int32 → Int32 → Int32 → Int32 → Int32 → Prop} (hr6 : ∀ (M : xMem) (p1 : Int32) (p2 : Int32) (p3 : Int32) (p4 : Int32) (p5 : Int32), r6 M p1 p2 p3 p4 p5 → xW G M [some (.ref (xa G 81)), some (.int p1), some (.int p2), some (.int p3), some (.int p4), some (.int p5), none] [] 6) : ∀ (M : xMem) (p1 : Int32) (p2 : Int32) (p3 : Int32) (p4 : Int32) (p5 : Int32), b_X9_heardBy_46 post r6 M p1 p2 p3 p4 p5 → xW G M [some (.ref (xa G 81)), some (.int p1), some (.int p2), some (.int p3), some (.int p4), some (.int p5), none] [] 46 := by
  intro M p1 p2 p3 p4 p5 h
  unfold b_X9_heardBy_46 at h
  refine x_iconst (v := (0 : Int32)) hG dX9_heardBy_46 (by decide) ?_
  refine x_keep [true, true, true, true, true, true, false] rfl ?_
  exact k_X9_heardBy_47 hG hQ hr6 _ _ _ _ _ _ _ h
set_option maxRecDepth 100000 in
set_option maxHeartbeats 4000000 in
theorem k_X9_heardBy_42 {G : xG} {post : Int32 → xMem → Prop} (hG : xOk G cX9_heardBy RX9 wsX9_heardBy rm_X9_heardBy) (hQ : xRetI G post .int) {r6 : xMem → Int32 → Int32 → Int32 → Int32 → Int32 → Prop} (hr6 : ∀ (M : xMem) (p1 : Int32) (p2 : Int32) (p3 : Int32) (p4 : Int32) (p5 : Int32), r6 M p1 p2 p3 p4 p5 → xW G M [some (.ref (xa G 81)), some (.int p1), some (.int p2), some (.int p3), some (.int p4), some (.int p5), none] [] 6) : ∀ (M : xMem) (p1 : Int32) (p2 : Int32) (p3 : Int32) (p4 : Int32) (p5 : Int32), b_X9_heardBy_42 post r6 M p1 p2 p3 p4 p5 → xW G M [some (.ref (xa G 81)), some (.int p1), some (.int p2), some (.int p3), some (.int p4), some (.int p5), none] [] 42 := by
  intro M p1 p2 p3 p4 p5 h
  unfold b_X9_heardBy_42 at h
  refine x_iconst (v := (1 : Int32)) hG dX9_heardBy_42 (by decide) ?_
  refine x_goto (tgt := 47) hG dX9_heardBy_43 (by decide) ?_
  refine x_keep [true, true, true, true, true, true, false] rfl ?_
  exact k_X9_heardBy_47 hG hQ hr6 _ _ _ _ _ _ _ h
set_option maxRecDepth 100000 in
set_option maxHeartbeats 4000000 in
theorem k_X9_heardBy_6 {G : xG} {post : Int32 → xMem → Prop} (hG : xOk G cX9_heardBy RX9 wsX9_heardBy rm_X9_heardBy) (hQ : xRetI G post .int) : ∀ (M : xMem) (p1 : Int32) (p2 : Int32) (p3 : Int32) (p4 : Int32) (p5 : Int32), xlp6 (b_X9_heardBy_6 post) M p1 p2 p3 p4 p5 → xW G M [some (.ref (xa G 81)), some (.int p1), some (.int p2), some (.int p3), some (.int p4), some (.int p5), none] [] 6 := by
  refine xlp6_W (W := fun M p1 p2 p3 p4 p5 => xW G M [some (.ref (xa G 81)), some (.int p1), some (.int p2), some (.int p3), some (.int p4), some (.int p5), none] [] 6) (fun r6 hr6 => ?_)
  intro M p1 p2 p3 p4 p5 h
  unfold b_X9_heardBy_6 at h
  refine x_iload hG dX9_heardBy_6 rfl ?_
  refine x_aload_n hG dX9_heardBy_8 rfl rfl ?_
  refine x_get_9_20 hG dX9_heardBy_9 (rfl : kd 81 = 9) hin_X9_heardBy_X9 (List.mem_of_getElem? (i := 1) rfl) ?_
  refine x_icmp_ge (tgt := 81) hG dX9_heardBy_12 (by decide) (fun hc1 => ?_) (fun hc1 => ?_)
  · have h := h.1 hc1
    refine x_iload hG dX9_heardBy_81 rfl ?_
    exact x_iret hG hQ dX9_heardBy_83 rfl h
  · have h := h.2 hc1
    refine x_iload_n hG dX9_heardBy_15 rfl rfl ?_
    refine x_iload hG dX9_heardBy_16 rfl ?_
    refine x_ishr hG dX9_heardBy_18 ?_
    refine x_iconst (v := (1 : Int32)) hG dX9_heardBy_19 (by decide) ?_
    refine x_iand hG dX9_heardBy_20 ?_
    refine x_iconst (v := (1 : Int32)) hG dX9_heardBy_21 (by decide) ?_
    refine x_icmp_ne (tgt := 46) hG dX9_heardBy_22 (by decide) (fun hc2 => ?_) (fun hc2 => ?_)
    · have h := h.1 hc2
      refine x_keep [true, true, true, true, true, true, false] rfl ?_
      exact k_X9_heardBy_46 hG hQ hr6 _ _ _ _ _ _ h
    · have h := h.2 hc2
      refine x_iload_n hG dX9_heardBy_25 rfl rfl ?_
      refine x_if_eq (tgt := 42) hG dX9_heardBy_26 (by decide) (fun hc3 => ?_) (fun hc3 => ?_)
      · have h := h.1 hc3
        refine x_keep [true, true, true, true, true, true, false] rfl ?_
        exact k_X9_heardBy_42 hG hQ hr6 _ _ _ _ _ _ h
      · have h := h.2 hc3
        refine x_aload_n hG dX9_heardBy_29 rfl rfl ?_
        refine x_get_9_18 hG dX9_heardBy_30 (rfl : kd 81 = 9) hin_X9_heardBy_X9 (List.mem_of_getElem? (i := 2) rfl) ?_
        refine x_iconst (v := (4 : Int32)) hG dX9_heardBy_33 (by decide) ?_
        refine x_iload hG dX9_heardBy_34 rfl ?_
        refine x_imul hG dX9_heardBy_36 ?_
        obtain ⟨hi4, h⟩ := h
        refine x_iaload hG dX9_heardBy_37 (kf_9_18 (rfl : kd 81 = 9)).1 (x_inE (kf_9_18 (rfl : kd 81 = 9)).2 hi4) ?_
        refine x_iload_n hG dX9_heardBy_38 rfl rfl ?_
        refine x_icmp_eq (tgt := 46) hG dX9_heardBy_39 (by decide) (fun hc5 => ?_) (fun hc5 => ?_)
        · have h := h.1 hc5
          refine x_keep [true, true, true, true, true, true, false] rfl ?_
          exact k_X9_heardBy_46 hG hQ hr6 _ _ _ _ _ _ h
        · have h := h.2 hc5
          refine x_keep [true, true, true, true, true, true, false] rfl ?_
          exact k_X9_heardBy_42 hG hQ hr6 _ _ _ _ _ _ h
set_option maxRecDepth 100000 in
set_option maxHeartbeats 4000000 in
theorem c_X9_heardBy {l : Launch} {a : Nat → Nat} {M : xMem} {p1 : Int32} {p2 : Int32} {p3 : Int32} {post : Int32 → xMem → Prop} (ha : xInj a) (h : w_X9_heardBy M p1 p2 p3 post) : ∀ D cs sz, xMetI l yX9_heardBy wsX9_heardBy rm_X9_heardBy D a cs sz M [.ref (a 81), .int p1, .int p2, .int p3] post := by
  intro D cs sz
  unfold w_X9_heardBy at h
  refine x_metI (ty := .int) [some (.ref (a 81)), some (.int p1), some (.int p2), some (.int p3), none, none, none] (by decide) rfl rfl (Nat.le_of_ble_eq_true rfl) rfl rfl ha D cs sz rfl (fun G e1 e2 hG hQ => ?_)
  subst e1
  subst e2
  refine x_iconst (v := (0 : Int32)) hG dX9_heardBy_0 (by decide) ?_
  refine x_istore hG dX9_heardBy_1 (Nat.le_of_ble_eq_true rfl) rfl ?_
  refine x_iconst (v := (0 : Int32)) hG dX9_heardBy_3 (by decide) ?_
  refine x_istore hG dX9_heardBy_4 (Nat.le_of_ble_eq_true rfl) rfl ?_
  refine x_keep [true, true, true, true, true, true, false] rfl ?_
  exact k_X9_heardBy_6 hG hQ _ _ _ _ _ _ h
abbrev rm_X9_heard : Room := { frames := 5, cells := 0, slots := 0, locals := 122 }
theorem hy_X9_heard : yX9_heard.cls = RX9 ∧ yX9_heard.cls ≠ "java/lang/invoke/MethodHandle" ∧ yX9_heard.cls ≠ "java/lang/invoke/VarHandle" ∧ (parseMethodDescriptor yX9_heard.desc).map (fun d => d.parameters.length) = some 2 := by decide +kernel
theorem hin_X9_heard_X9 : ∀ w ∈ wsX90, w ∈ wsX9_heard := fun _ h => List.mem_cons_of_mem _ (List.mem_append_right _ h)
set_option maxRecDepth 100000 in
set_option maxHeartbeats 4000000 in
theorem c_X9_heard {l : Launch} {a : Nat → Nat} {M : xMem} {p1 : Int32} {p2 : Int32} {post : Int32 → xMem → Prop} (ha : xInj a) (h : w_X9_heard M p1 p2 post) : ∀ D cs sz, xMetI l yX9_heard wsX9_heard rm_X9_heard D a cs sz M [.ref (a 81), .int p1, .int p2] post := by
  intro D cs sz
  unfold w_X9_heard at h
  refine x_metI (ty := .int) [some (.ref (a 81)), some (.int p1), some (.int p2)] (by decide) rfl rfl (Nat.le_of_ble_eq_true rfl) rfl rfl ha D cs sz rfl (fun G e1 e2 hG hQ => ?_)
  subst e1
  subst e2
  refine x_aload_n hG dX9_heard_0 rfl rfl ?_
  refine x_iconst (v := (0 : Int32)) hG dX9_heard_1 (by decide) ?_
  have h := h _ rfl
  refine x_put_9_0 hG dX9_heard_2 (rfl : kd 81 = 9) hin_X9_heard_X9 (List.mem_of_getElem? (i := 1) rfl) ?_
  refine x_aload_n hG dX9_heard_5 rfl rfl ?_
  refine x_iload_n hG dX9_heard_6 rfl rfl ?_
  refine x_cVI1 hG dX9_heard_7 (fun ha => c_X9_isYard ha h) gX9_heard_X9_isYard rfl ⟨rfl, rfl⟩ hy_X9_isYard ⟨Nat.le_of_ble_eq_true rfl, Nat.le_of_ble_eq_true rfl⟩ (kd_lt (rfl : kd 81 = 9) (by decide)) (fun _ => xc_9 (rfl : kd 81 = 9)) rfl (Nat.le_of_ble_eq_true rfl) (fun z2 M3 h => ?_)
  refine x_if_ne (tgt := 15) hG dX9_heard_10 (by decide) (fun hc4 => ?_) (fun hc4 => ?_)
  · have h := h.1 hc4
    refine x_aload_n hG dX9_heard_15 rfl rfl ?_
    refine x_cVV0 hG dX9_heard_16 (fun ha => c_X9_spreadsAll ha h) gX9_heard_X9_spreadsAll rfl ⟨rfl, rfl⟩ hy_X9_spreadsAll ⟨Nat.le_of_ble_eq_true rfl, Nat.le_of_ble_eq_true rfl⟩ (kd_lt (rfl : kd 81 = 9) (by decide)) (fun _ => xc_9 (rfl : kd 81 = 9)) rfl (Nat.le_of_ble_eq_true rfl) (fun M6 h => ?_)
    refine x_aload_n hG dX9_heard_19 rfl rfl ?_
    refine x_iload_n hG dX9_heard_20 rfl rfl ?_
    refine x_iload_n hG dX9_heard_21 rfl rfl ?_
    refine x_iconst (v := (0 : Int32)) hG dX9_heard_22 (by decide) ?_
    refine x_cVI3 hG dX9_heard_23 (fun ha => c_X9_heardBy ha h) gX9_heard_X9_heardBy rfl ⟨rfl, rfl⟩ hy_X9_heardBy ⟨Nat.le_of_ble_eq_true rfl, Nat.le_of_ble_eq_true rfl⟩ (kd_lt (rfl : kd 81 = 9) (by decide)) (fun _ => xc_9 (rfl : kd 81 = 9)) rfl (Nat.le_of_ble_eq_true rfl) (fun z7 M8 h => ?_)
    exact x_iret hG hQ dX9_heard_26 rfl h
  · have h := h.2 hc4
    refine x_iconst (v := (-1 : Int32)) hG dX9_heard_13 (by decide) ?_
    exact x_iret hG hQ dX9_heard_14 rfl h
abbrev rm_X9_brokenBy : Room := { frames := 2, cells := 0, slots := 0, locals := 46 }
theorem hy_X9_brokenBy : yX9_brokenBy.cls = RX9 ∧ yX9_brokenBy.cls ≠ "java/lang/invoke/MethodHandle" ∧ yX9_brokenBy.cls ≠ "java/lang/invoke/VarHandle" ∧ (parseMethodDescriptor yX9_brokenBy.desc).map (fun d => d.parameters.length) = some 2 := by decide +kernel
theorem hin_X9_brokenBy_X9 : ∀ w ∈ wsX90, w ∈ wsX9_brokenBy := fun _ h => List.mem_cons_of_mem _ (List.mem_append_right _ h)
set_option maxRecDepth 100000 in
set_option maxHeartbeats 4000000 in
theorem k_X9_brokenBy_62 {G : xG} {post : Int32 → xMem → Prop} (hG : xOk G cX9_brokenBy RX9 wsX9_brokenBy rm_X9_brokenBy) (hQ : xRetI G post .int) {r5 : xMem → Int32 → Int32 → Int32 → Int32 → Prop} (hr5 : ∀ (M : xMem) (p1 : Int32) (p2 : Int32) (p3 : Int32) (p4 : Int32), r5 M p1 p2 p3 p4 → xW G M [some (.ref (xa G 81)), some (.int p1), some (.int p2), some (.int p3), some (.int p4)] [] 5) : ∀ (M : xMem) (p1 : Int32) (p2 : Int32) (p4 : Int32) (s0 : Int32) (s1 : Int32), b_X9_brokenBy_62 post r5 M p1 p2 p4 s0 s1 → xW G M [some (.ref (xa G 81)), some (.int p1), some (.int p2), none, some (.int p4)] [.int s1, .int s0] 62 := by
  intro M p1 p2 p4 s0 s1 h
  unfold b_X9_brokenBy_62 at h
  refine x_ior hG dX9_brokenBy_62 ?_
  refine x_istore_n hG dX9_brokenBy_63 rfl (Nat.le_of_ble_eq_true rfl) rfl ?_
  refine x_iinc (v := _) hG dX9_brokenBy_64 rfl (x_iincE (k := 1) (by decide)) (Nat.le_of_ble_eq_true rfl) rfl ?_
  refine x_goto (tgt := 5) hG dX9_brokenBy_67 (by decide) ?_
  refine x_keep [true, true, true, true, true] rfl ?_
  exact hr5 _ _ _ _ _ h
set_option maxRecDepth 100000 in
set_option maxHeartbeats 4000000 in
theorem k_X9_brokenBy_61 {G : xG} {post : Int32 → xMem → Prop} (hG : xOk G cX9_brokenBy RX9 wsX9_brokenBy rm_X9_brokenBy) (hQ : xRetI G post .int) {r5 : xMem → Int32 → Int32 → Int32 → Int32 → Prop} (hr5 : ∀ (M : xMem) (p1 : Int32) (p2 : Int32) (p3 : Int32) (p4 : Int32), r5 M p1 p2 p3 p4 → xW G M [some (.ref (xa G 81)), some (.int p1), some (.int p2), some (.int p3), some (.int p4)] [] 5) : ∀ (M : xMem) (p1 : Int32) (p2 : Int32) (p4 : Int32) (s0 : Int32), b_X9_brokenBy_61 post r5 M p1 p2 p4 s0 → xW G M [some (.ref (xa G 81)), some (.int p1), some (.int p2), none, some (.int p4)] [.int s0] 61 := by
  intro M p1 p2 p4 s0 h
  unfold b_X9_brokenBy_61 at h
  refine x_iconst (v := (0 : Int32)) hG dX9_brokenBy_61 (by decide) ?_
  refine x_keep [true, true, true, false, true] rfl ?_
  exact k_X9_brokenBy_62 hG hQ hr5 _ _ _ _ _ _ h
set_option maxRecDepth 100000 in
set_option maxHeartbeats 4000000 in
theorem k_X9_brokenBy_5 {G : xG} {post : Int32 → xMem → Prop} (hG : xOk G cX9_brokenBy RX9 wsX9_brokenBy rm_X9_brokenBy) (hQ : xRetI G post .int) : ∀ (M : xMem) (p1 : Int32) (p2 : Int32) (p3 : Int32) (p4 : Int32), xlp5 (b_X9_brokenBy_5 post) M p1 p2 p3 p4 → xW G M [some (.ref (xa G 81)), some (.int p1), some (.int p2), some (.int p3), some (.int p4)] [] 5 := by
  refine xlp5_W (W := fun M p1 p2 p3 p4 => xW G M [some (.ref (xa G 81)), some (.int p1), some (.int p2), some (.int p3), some (.int p4)] [] 5) (fun r5 hr5 => ?_)
  intro M p1 p2 p3 p4 h
  unfold b_X9_brokenBy_5 at h
  refine x_iload hG dX9_brokenBy_5 rfl ?_
  refine x_aload_n hG dX9_brokenBy_7 rfl rfl ?_
  refine x_get_9_21 hG dX9_brokenBy_8 (rfl : kd 81 = 9) hin_X9_brokenBy_X9 (List.mem_of_getElem? (i := 1) rfl) ?_
  refine x_icmp_ge (tgt := 70) hG dX9_brokenBy_11 (by decide) (fun hc1 => ?_) (fun hc1 => ?_)
  · have h := h.1 hc1
    refine x_iload_n hG dX9_brokenBy_70 rfl rfl ?_
    exact x_iret hG hQ dX9_brokenBy_71 rfl h
  · have h := h.2 hc1
    refine x_iload_n hG dX9_brokenBy_14 rfl rfl ?_
    refine x_aload_n hG dX9_brokenBy_15 rfl rfl ?_
    refine x_iload hG dX9_brokenBy_16 rfl ?_
    refine x_iload_n hG dX9_brokenBy_18 rfl rfl ?_
    refine x_cVI2 hG dX9_brokenBy_19 (fun ha => c_X9_holds ha h) gX9_brokenBy_X9_holds rfl ⟨rfl, rfl⟩ hy_X9_holds ⟨Nat.le_of_ble_eq_true rfl, Nat.le_of_ble_eq_true rfl⟩ (kd_lt (rfl : kd 81 = 9) (by decide)) (fun _ => xc_9 (rfl : kd 81 = 9)) rfl (Nat.le_of_ble_eq_true rfl) (fun z2 M3 h => ?_)
    refine x_if_eq (tgt := 61) hG dX9_brokenBy_22 (by decide) (fun hc4 => ?_) (fun hc4 => ?_)
    · have h := h.1 hc4
      refine x_keep [true, true, true, false, true] rfl ?_
      exact k_X9_brokenBy_61 hG hQ hr5 _ _ _ _ _ h
    · have h := h.2 hc4
      refine x_aload_n hG dX9_brokenBy_25 rfl rfl ?_
      refine x_aload_n hG dX9_brokenBy_26 rfl rfl ?_
      refine x_get_9_19 hG dX9_brokenBy_27 (rfl : kd 81 = 9) hin_X9_brokenBy_X9 (List.mem_of_getElem? (i := 2) rfl) ?_
      refine x_iconst (v := (5 : Int32)) hG dX9_brokenBy_30 (by decide) ?_
      refine x_iload hG dX9_brokenBy_31 rfl ?_
      refine x_imul hG dX9_brokenBy_33 ?_
      obtain ⟨hi5, h⟩ := h
      refine x_iaload hG dX9_brokenBy_34 (kf_9_19 (rfl : kd 81 = 9)).1 (x_inE (kf_9_19 (rfl : kd 81 = 9)).2 hi5) ?_
      refine x_iload_n hG dX9_brokenBy_35 rfl rfl ?_
      refine x_iconst (v := (1 : Int32)) hG dX9_brokenBy_36 (by decide) ?_
      refine x_cVI3 hG dX9_brokenBy_37 (fun ha => c_X9_heardBy ha h) gX9_brokenBy_X9_heardBy rfl ⟨rfl, rfl⟩ hy_X9_heardBy ⟨Nat.le_of_ble_eq_true rfl, Nat.le_of_ble_eq_true rfl⟩ (kd_lt (rfl : kd 81 = 9) (by decide)) (fun _ => xc_9 (rfl : kd 81 = 9)) rfl (Nat.le_of_ble_eq_true rfl) (fun z6 M7 h => ?_)
      refine x_aload_n hG dX9_brokenBy_40 rfl rfl ?_
      refine x_get_9_19 hG dX9_brokenBy_41 (rfl : kd 81 = 9) hin_X9_brokenBy_X9 (List.mem_of_getElem? (i := 2) rfl) ?_
      refine x_iconst (v := (5 : Int32)) hG dX9_brokenBy_44 (by decide) ?_
      refine x_iload hG dX9_brokenBy_45 rfl ?_
      refine x_imul hG dX9_brokenBy_47 ?_
      refine x_iconst (v := (3 : Int32)) hG dX9_brokenBy_48 (by decide) ?_
      refine x_iadd hG dX9_brokenBy_49 ?_
      obtain ⟨hi8, h⟩ := h
      refine x_iaload hG dX9_brokenBy_50 (kf_9_19 (rfl : kd 81 = 9)).1 (x_inE (kf_9_19 (rfl : kd 81 = 9)).2 hi8) ?_
      refine x_icmp_le (tgt := 61) hG dX9_brokenBy_51 (by decide) (fun hc9 => ?_) (fun hc9 => ?_)
      · have h := h.1 hc9
        refine x_keep [true, true, true, false, true] rfl ?_
        exact k_X9_brokenBy_61 hG hQ hr5 _ _ _ _ _ h
      · have h := h.2 hc9
        refine x_iconst (v := (1 : Int32)) hG dX9_brokenBy_54 (by decide) ?_
        refine x_iload hG dX9_brokenBy_55 rfl ?_
        refine x_ishl hG dX9_brokenBy_57 ?_
        refine x_goto (tgt := 62) hG dX9_brokenBy_58 (by decide) ?_
        refine x_keep [true, true, true, false, true] rfl ?_
        exact k_X9_brokenBy_62 hG hQ hr5 _ _ _ _ _ _ h
set_option maxRecDepth 100000 in
set_option maxHeartbeats 4000000 in
theorem c_X9_brokenBy {l : Launch} {a : Nat → Nat} {M : xMem} {p1 : Int32} {p2 : Int32} {post : Int32 → xMem → Prop} (ha : xInj a) (h : w_X9_brokenBy M p1 p2 post) : ∀ D cs sz, xMetI l yX9_brokenBy wsX9_brokenBy rm_X9_brokenBy D a cs sz M [.ref (a 81), .int p1, .int p2] post := by
  intro D cs sz
  unfold w_X9_brokenBy at h
  refine x_metI (ty := .int) [some (.ref (a 81)), some (.int p1), some (.int p2), none, none] (by decide) rfl rfl (Nat.le_of_ble_eq_true rfl) rfl rfl ha D cs sz rfl (fun G e1 e2 hG hQ => ?_)
  subst e1
  subst e2
  refine x_iconst (v := (0 : Int32)) hG dX9_brokenBy_0 (by decide) ?_
  refine x_istore_n hG dX9_brokenBy_1 rfl (Nat.le_of_ble_eq_true rfl) rfl ?_
  refine x_iconst (v := (0 : Int32)) hG dX9_brokenBy_2 (by decide) ?_
  refine x_istore hG dX9_brokenBy_3 (Nat.le_of_ble_eq_true rfl) rfl ?_
  refine x_keep [true, true, true, true, true] rfl ?_
  exact k_X9_brokenBy_5 hG hQ _ _ _ _ _ h
abbrev rm_X9_isHour : Room := { frames := 1, cells := 0, slots := 0, locals := 22 }
theorem hy_X9_isHour : yX9_isHour.cls ≠ "java/lang/invoke/MethodHandle" ∧ yX9_isHour.cls ≠ "java/lang/invoke/VarHandle" ∧ (parseMethodDescriptor yX9_isHour.desc).map (fun d => d.parameters.length) = some 1 := by decide +kernel
set_option maxRecDepth 100000 in
set_option maxHeartbeats 4000000 in
theorem c_X9_isHour {l : Launch} {a : Nat → Nat} {M : xMem} {p0 : Int32} {post : Int32 → xMem → Prop} (ha : xInj a) (h : w_X9_isHour M p0 post) : ∀ D cs sz, xMetI l yX9_isHour wsX9_isHour rm_X9_isHour D a cs sz M [.int p0] post := by
  intro D cs sz
  unfold w_X9_isHour at h
  refine x_metI (ty := .boolean) [some (.int p0)] (by decide) rfl rfl (Nat.le_of_ble_eq_true rfl) rfl rfl ha D cs sz rfl (fun G e1 e2 hG hQ => ?_)
  subst e1
  subst e2
  refine x_iload_n hG dX9_isHour_0 rfl rfl ?_
  refine x_iconst (v := (0 : Int32)) hG dX9_isHour_1 (by decide) ?_
  refine x_bipush (v := (11 : Int32)) hG dX9_isHour_2 (by decide) ?_
  refine x_cSI3 hG dX9_isHour_4 (fun ha => c_X9_in ha h) gX9_isHour_X9_in rfl ⟨rfl, rfl⟩ hy_X9_in ⟨Nat.le_of_ble_eq_true rfl, Nat.le_of_ble_eq_true rfl⟩ (Nat.le_of_ble_eq_true rfl) (fun z1 M2 h => ?_)
  exact x_iret hG hQ dX9_isHour_7 (x_nb h.1) h.2
abbrev rm_X9_isBit : Room := { frames := 1, cells := 0, slots := 0, locals := 22 }
theorem hy_X9_isBit : yX9_isBit.cls ≠ "java/lang/invoke/MethodHandle" ∧ yX9_isBit.cls ≠ "java/lang/invoke/VarHandle" ∧ (parseMethodDescriptor yX9_isBit.desc).map (fun d => d.parameters.length) = some 1 := by decide +kernel
set_option maxRecDepth 100000 in
set_option maxHeartbeats 4000000 in
theorem c_X9_isBit {l : Launch} {a : Nat → Nat} {M : xMem} {p0 : Int32} {post : Int32 → xMem → Prop} (ha : xInj a) (h : w_X9_isBit M p0 post) : ∀ D cs sz, xMetI l yX9_isBit wsX9_isBit rm_X9_isBit D a cs sz M [.int p0] post := by
  intro D cs sz
  unfold w_X9_isBit at h
  refine x_metI (ty := .boolean) [some (.int p0)] (by decide) rfl rfl (Nat.le_of_ble_eq_true rfl) rfl rfl ha D cs sz rfl (fun G e1 e2 hG hQ => ?_)
  subst e1
  subst e2
  refine x_iload_n hG dX9_isBit_0 rfl rfl ?_
  refine x_iconst (v := (0 : Int32)) hG dX9_isBit_1 (by decide) ?_
  refine x_iconst (v := (1 : Int32)) hG dX9_isBit_2 (by decide) ?_
  refine x_cSI3 hG dX9_isBit_3 (fun ha => c_X9_in ha h) gX9_isBit_X9_in rfl ⟨rfl, rfl⟩ hy_X9_in ⟨Nat.le_of_ble_eq_true rfl, Nat.le_of_ble_eq_true rfl⟩ (Nat.le_of_ble_eq_true rfl) (fun z1 M2 h => ?_)
  exact x_iret hG hQ dX9_isBit_6 (x_nb h.1) h.2
abbrev rm_X9_broken : Room := { frames := 5, cells := 0, slots := 0, locals := 122 }
theorem hy_X9_broken : yX9_broken.cls = RX9 ∧ yX9_broken.cls ≠ "java/lang/invoke/MethodHandle" ∧ yX9_broken.cls ≠ "java/lang/invoke/VarHandle" ∧ (parseMethodDescriptor yX9_broken.desc).map (fun d => d.parameters.length) = some 2 := by decide +kernel
theorem hin_X9_broken_X9 : ∀ w ∈ wsX90, w ∈ wsX9_broken := fun _ h => List.mem_cons_of_mem _ (List.mem_append_right _ h)
set_option maxRecDepth 100000 in
set_option maxHeartbeats 4000000 in
theorem c_X9_broken {l : Launch} {a : Nat → Nat} {M : xMem} {p1 : Int32} {p2 : Int32} {post : Int32 → xMem → Prop} (ha : xInj a) (h : w_X9_broken M p1 p2 post) : ∀ D cs sz, xMetI l yX9_broken wsX9_broken rm_X9_broken D a cs sz M [.ref (a 81), .int p1, .int p2] post := by
  intro D cs sz
  unfold w_X9_broken at h
  refine x_metI (ty := .int) [some (.ref (a 81)), some (.int p1), some (.int p2)] (by decide) rfl rfl (Nat.le_of_ble_eq_true rfl) rfl rfl ha D cs sz rfl (fun G e1 e2 hG hQ => ?_)
  subst e1
  subst e2
  refine x_aload_n hG dX9_broken_0 rfl rfl ?_
  refine x_iconst (v := (0 : Int32)) hG dX9_broken_1 (by decide) ?_
  have h := h _ rfl
  refine x_put_9_0 hG dX9_broken_2 (rfl : kd 81 = 9) hin_X9_broken_X9 (List.mem_of_getElem? (i := 1) rfl) ?_
  refine x_iload_n hG dX9_broken_5 rfl rfl ?_
  refine x_cSI1 hG dX9_broken_6 (fun ha => c_X9_isHour ha h) gX9_broken_X9_isHour rfl ⟨rfl, rfl⟩ hy_X9_isHour ⟨Nat.le_of_ble_eq_true rfl, Nat.le_of_ble_eq_true rfl⟩ (Nat.le_of_ble_eq_true rfl) (fun z2 M3 h => ?_)
  refine x_if_ne (tgt := 14) hG dX9_broken_9 (by decide) (fun hc4 => ?_) (fun hc4 => ?_)
  · have h := h.1 hc4
    refine x_aload_n hG dX9_broken_14 rfl rfl ?_
    refine x_cVV0 hG dX9_broken_15 (fun ha => c_X9_spreadsAll ha h) gX9_broken_X9_spreadsAll rfl ⟨rfl, rfl⟩ hy_X9_spreadsAll ⟨Nat.le_of_ble_eq_true rfl, Nat.le_of_ble_eq_true rfl⟩ (kd_lt (rfl : kd 81 = 9) (by decide)) (fun _ => xc_9 (rfl : kd 81 = 9)) rfl (Nat.le_of_ble_eq_true rfl) (fun M6 h => ?_)
    refine x_aload_n hG dX9_broken_18 rfl rfl ?_
    refine x_iload_n hG dX9_broken_19 rfl rfl ?_
    refine x_iload_n hG dX9_broken_20 rfl rfl ?_
    refine x_cVI2 hG dX9_broken_21 (fun ha => c_X9_brokenBy ha h) gX9_broken_X9_brokenBy rfl ⟨rfl, rfl⟩ hy_X9_brokenBy ⟨Nat.le_of_ble_eq_true rfl, Nat.le_of_ble_eq_true rfl⟩ (kd_lt (rfl : kd 81 = 9) (by decide)) (fun _ => xc_9 (rfl : kd 81 = 9)) rfl (Nat.le_of_ble_eq_true rfl) (fun z7 M8 h => ?_)
    exact x_iret hG hQ dX9_broken_24 rfl h
  · have h := h.2 hc4
    refine x_iconst (v := (-1 : Int32)) hG dX9_broken_12 (by decide) ?_
    exact x_iret hG hQ dX9_broken_13 rfl h
abbrev rm_X9_pricesOf : Room := { frames := 0, cells := 0, slots := 0, locals := 0 }
theorem hy_X9_pricesOf : yX9_pricesOf.cls = RX9 ∧ yX9_pricesOf.cls ≠ "java/lang/invoke/MethodHandle" ∧ yX9_pricesOf.cls ≠ "java/lang/invoke/VarHandle" ∧ (parseMethodDescriptor yX9_pricesOf.desc).map (fun d => d.parameters.length) = some 1 := by decide +kernel
theorem hin_X9_pricesOf_X9 : ∀ w ∈ wsX90, w ∈ wsX9_pricesOf := fun _ h => List.mem_cons_of_mem _ (List.mem_append_right _ h)
set_option maxRecDepth 100000 in
set_option maxHeartbeats 4000000 in
theorem k_X9_pricesOf_36 {G : xG} {post : Int32 → xMem → Prop} (hG : xOk G cX9_pricesOf RX9 wsX9_pricesOf rm_X9_pricesOf) (hQ : xRetI G post .int) {r4 : xMem → Int32 → Int32 → Int32 → Prop} (hr4 : ∀ (M : xMem) (p1 : Int32) (p2 : Int32) (p3 : Int32), r4 M p1 p2 p3 → xW G M [some (.ref (xa G 81)), some (.int p1), some (.int p2), some (.int p3)] [] 4) : ∀ (M : xMem) (p1 : Int32) (p3 : Int32) (s0 : Int32) (s1 : Int32), b_X9_pricesOf_36 post r4 M p1 p3 s0 s1 → xW G M [some (.ref (xa G 81)), some (.int p1), none, some (.int p3)] [.int s1, .int s0] 36 := by
  intro M p1 p3 s0 s1 h
  unfold b_X9_pricesOf_36 at h
  refine x_iadd hG dX9_pricesOf_36 ?_
  refine x_istore_n hG dX9_pricesOf_37 rfl (Nat.le_of_ble_eq_true rfl) rfl ?_
  refine x_iinc (v := _) hG dX9_pricesOf_38 rfl (x_iincE (k := 1) (by decide)) (Nat.le_of_ble_eq_true rfl) rfl ?_
  refine x_goto (tgt := 4) hG dX9_pricesOf_41 (by decide) ?_
  refine x_keep [true, true, true, true] rfl ?_
  exact hr4 _ _ _ _ h
set_option maxRecDepth 100000 in
set_option maxHeartbeats 4000000 in
theorem k_X9_pricesOf_4 {G : xG} {post : Int32 → xMem → Prop} (hG : xOk G cX9_pricesOf RX9 wsX9_pricesOf rm_X9_pricesOf) (hQ : xRetI G post .int) : ∀ (M : xMem) (p1 : Int32) (p2 : Int32) (p3 : Int32), xlp4 (b_X9_pricesOf_4 post) M p1 p2 p3 → xW G M [some (.ref (xa G 81)), some (.int p1), some (.int p2), some (.int p3)] [] 4 := by
  refine xlp4_W (W := fun M p1 p2 p3 => xW G M [some (.ref (xa G 81)), some (.int p1), some (.int p2), some (.int p3)] [] 4) (fun r4 hr4 => ?_)
  intro M p1 p2 p3 h
  unfold b_X9_pricesOf_4 at h
  refine x_iload_n hG dX9_pricesOf_4 rfl rfl ?_
  refine x_aload_n hG dX9_pricesOf_5 rfl rfl ?_
  refine x_get_9_21 hG dX9_pricesOf_6 (rfl : kd 81 = 9) hin_X9_pricesOf_X9 (List.mem_of_getElem? (i := 1) rfl) ?_
  refine x_icmp_ge (tgt := 44) hG dX9_pricesOf_9 (by decide) (fun hc1 => ?_) (fun hc1 => ?_)
  · have h := h.1 hc1
    refine x_iload_n hG dX9_pricesOf_44 rfl rfl ?_
    exact x_iret hG hQ dX9_pricesOf_45 rfl h
  · have h := h.2 hc1
    refine x_iload_n hG dX9_pricesOf_12 rfl rfl ?_
    refine x_iload_n hG dX9_pricesOf_13 rfl rfl ?_
    refine x_iload_n hG dX9_pricesOf_14 rfl rfl ?_
    refine x_ishr hG dX9_pricesOf_15 ?_
    refine x_iconst (v := (1 : Int32)) hG dX9_pricesOf_16 (by decide) ?_
    refine x_iand hG dX9_pricesOf_17 ?_
    refine x_iconst (v := (1 : Int32)) hG dX9_pricesOf_18 (by decide) ?_
    refine x_icmp_ne (tgt := 35) hG dX9_pricesOf_19 (by decide) (fun hc2 => ?_) (fun hc2 => ?_)
    · have h := h.1 hc2
      refine x_iconst (v := (0 : Int32)) hG dX9_pricesOf_35 (by decide) ?_
      refine x_keep [true, true, false, true] rfl ?_
      exact k_X9_pricesOf_36 hG hQ hr4 _ _ _ _ _ h
    · have h := h.2 hc2
      refine x_aload_n hG dX9_pricesOf_22 rfl rfl ?_
      refine x_get_9_19 hG dX9_pricesOf_23 (rfl : kd 81 = 9) hin_X9_pricesOf_X9 (List.mem_of_getElem? (i := 2) rfl) ?_
      refine x_iconst (v := (5 : Int32)) hG dX9_pricesOf_26 (by decide) ?_
      refine x_iload_n hG dX9_pricesOf_27 rfl rfl ?_
      refine x_imul hG dX9_pricesOf_28 ?_
      refine x_iconst (v := (4 : Int32)) hG dX9_pricesOf_29 (by decide) ?_
      refine x_iadd hG dX9_pricesOf_30 ?_
      obtain ⟨hi3, h⟩ := h
      refine x_iaload hG dX9_pricesOf_31 (kf_9_19 (rfl : kd 81 = 9)).1 (x_inE (kf_9_19 (rfl : kd 81 = 9)).2 hi3) ?_
      refine x_goto (tgt := 36) hG dX9_pricesOf_32 (by decide) ?_
      refine x_keep [true, true, false, true] rfl ?_
      exact k_X9_pricesOf_36 hG hQ hr4 _ _ _ _ _ h
set_option maxRecDepth 100000 in
set_option maxHeartbeats 4000000 in
theorem c_X9_pricesOf {l : Launch} {a : Nat → Nat} {M : xMem} {p1 : Int32} {post : Int32 → xMem → Prop} (ha : xInj a) (h : w_X9_pricesOf M p1 post) : ∀ D cs sz, xMetI l yX9_pricesOf wsX9_pricesOf rm_X9_pricesOf D a cs sz M [.ref (a 81), .int p1] post := by
  intro D cs sz
  unfold w_X9_pricesOf at h
  refine x_metI (ty := .int) [some (.ref (a 81)), some (.int p1), none, none] (by decide) rfl rfl (Nat.le_of_ble_eq_true rfl) rfl rfl ha D cs sz rfl (fun G e1 e2 hG hQ => ?_)
  subst e1
  subst e2
  refine x_iconst (v := (0 : Int32)) hG dX9_pricesOf_0 (by decide) ?_
  refine x_istore_n hG dX9_pricesOf_1 rfl (Nat.le_of_ble_eq_true rfl) rfl ?_
  refine x_iconst (v := (0 : Int32)) hG dX9_pricesOf_2 (by decide) ?_
  refine x_istore_n hG dX9_pricesOf_3 rfl (Nat.le_of_ble_eq_true rfl) rfl ?_
  refine x_keep [true, true, true, true] rfl ?_
  exact k_X9_pricesOf_4 hG hQ _ _ _ _ h
abbrev rm_X9_plans : Room := { frames := 3, cells := 0, slots := 0, locals := 70 }
theorem hy_X9_plans : yX9_plans.cls = RX9 ∧ yX9_plans.cls ≠ "java/lang/invoke/MethodHandle" ∧ yX9_plans.cls ≠ "java/lang/invoke/VarHandle" ∧ (parseMethodDescriptor yX9_plans.desc).map (fun d => d.parameters.length) = some 2 := by decide +kernel
theorem hin_X9_plans_X9 : ∀ w ∈ wsX90, w ∈ wsX9_plans := fun _ h => List.mem_cons_of_mem _ (List.mem_append_right _ h)
set_option maxRecDepth 100000 in
set_option maxHeartbeats 4000000 in
theorem k_X9_plans_163 {G : xG} {post : xMem → Prop} (hG : xOk G cX9_plans RX9 wsX9_plans rm_X9_plans) (hQ : xRetV G post) {r12 : xMem → Int32 → Int32 → Int32 → Prop} (hr12 : ∀ (M : xMem) (p1 : Int32) (p2 : Int32) (p3 : Int32), r12 M p1 p2 p3 → xW G M [some (.ref (xa G 81)), some (.int p1), some (.int p2), some (.int p3), none, none, none] [] 12) : ∀ (M : xMem) (p1 : Int32) (p2 : Int32) (p3 : Int32), b_X9_plans_163 post r12 M p1 p2 p3 → xW G M [some (.ref (xa G 81)), some (.int p1), some (.int p2), some (.int p3), none, none, none] [] 163 := by
  intro M p1 p2 p3 h
  unfold b_X9_plans_163 at h
  refine x_iinc (v := _) hG dX9_plans_163 rfl (x_iincE (k := 1) (by decide)) (Nat.le_of_ble_eq_true rfl) rfl ?_
  refine x_goto (tgt := 12) hG dX9_plans_166 (by decide) ?_
  refine x_keep [true, true, true, true, false, false, false] rfl ?_
  exact hr12 _ _ _ _ h
set_option maxRecDepth 100000 in
set_option maxHeartbeats 4000000 in
theorem k_X9_plans_160 {G : xG} {post : xMem → Prop} (hG : xOk G cX9_plans RX9 wsX9_plans rm_X9_plans) (hQ : xRetV G post) {r12 : xMem → Int32 → Int32 → Int32 → Prop} (hr12 : ∀ (M : xMem) (p1 : Int32) (p2 : Int32) (p3 : Int32), r12 M p1 p2 p3 → xW G M [some (.ref (xa G 81)), some (.int p1), some (.int p2), some (.int p3), none, none, none] [] 12) : ∀ (M : xMem) (p1 : Int32) (p2 : Int32) (p3 : Int32) (s1 : Int32), b_X9_plans_160 post r12 M p1 p2 p3 s1 → xW G M [some (.ref (xa G 81)), some (.int p1), some (.int p2), some (.int p3), none, none, none] [.int s1, .ref (xa G 81)] 160 := by
  intro M p1 p2 p3 s1 h
  unfold b_X9_plans_160 at h
  have h := h _ rfl
  refine x_put_9_26 hG dX9_plans_160 (rfl : kd 81 = 9) hin_X9_plans_X9 (List.mem_of_getElem? (i := 2) rfl) ?_
  refine x_keep [true, true, true, true, false, false, false] rfl ?_
  exact k_X9_plans_163 hG hQ hr12 _ _ _ _ h
set_option maxRecDepth 100000 in
set_option maxHeartbeats 4000000 in
theorem k_X9_plans_138 {G : xG} {post : xMem → Prop} (hG : xOk G cX9_plans RX9 wsX9_plans rm_X9_plans) (hQ : xRetV G post) {r12 : xMem → Int32 → Int32 → Int32 → Prop} (hr12 : ∀ (M : xMem) (p1 : Int32) (p2 : Int32) (p3 : Int32), r12 M p1 p2 p3 → xW G M [some (.ref (xa G 81)), some (.int p1), some (.int p2), some (.int p3), none, none, none] [] 12) : ∀ (M : xMem) (p1 : Int32) (p2 : Int32) (p3 : Int32) (p6 : Int32) (s1 : Int32), b_X9_plans_138 post r12 M p1 p2 p3 p6 s1 → xW G M [some (.ref (xa G 81)), some (.int p1), some (.int p2), some (.int p3), none, none, some (.int p6)] [.int s1, .ref (xa G 81)] 138 := by
  intro M p1 p2 p3 p6 s1 h
  unfold b_X9_plans_138 at h
  have h := h _ rfl
  refine x_put_9_25 hG dX9_plans_138 (rfl : kd 81 = 9) hin_X9_plans_X9 (List.mem_of_getElem? (i := 1) rfl) ?_
  refine x_aload_n hG dX9_plans_141 rfl rfl ?_
  refine x_iload hG dX9_plans_142 rfl ?_
  refine x_aload_n hG dX9_plans_144 rfl rfl ?_
  refine x_get_9_26 hG dX9_plans_145 (rfl : kd 81 = 9) hin_X9_plans_X9 (List.mem_of_getElem? (i := 2) rfl) ?_
  refine x_icmp_le (tgt := 156) hG dX9_plans_148 (by decide) (fun hc2 => ?_) (fun hc2 => ?_)
  · have h := h.1 hc2
    refine x_aload_n hG dX9_plans_156 rfl rfl ?_
    refine x_get_9_26 hG dX9_plans_157 (rfl : kd 81 = 9) hin_X9_plans_X9 (List.mem_of_getElem? (i := 2) rfl) ?_
    refine x_keep [true, true, true, true, false, false, false] rfl ?_
    exact k_X9_plans_160 hG hQ hr12 _ _ _ _ _ h
  · have h := h.2 hc2
    refine x_iload hG dX9_plans_151 rfl ?_
    refine x_goto (tgt := 160) hG dX9_plans_153 (by decide) ?_
    refine x_keep [true, true, true, true, false, false, false] rfl ?_
    exact k_X9_plans_160 hG hQ hr12 _ _ _ _ _ h
set_option maxRecDepth 100000 in
set_option maxHeartbeats 4000000 in
theorem k_X9_plans_118 {G : xG} {post : xMem → Prop} (hG : xOk G cX9_plans RX9 wsX9_plans rm_X9_plans) (hQ : xRetV G post) {r12 : xMem → Int32 → Int32 → Int32 → Prop} (hr12 : ∀ (M : xMem) (p1 : Int32) (p2 : Int32) (p3 : Int32), r12 M p1 p2 p3 → xW G M [some (.ref (xa G 81)), some (.int p1), some (.int p2), some (.int p3), none, none, none] [] 12) : ∀ (M : xMem) (p1 : Int32) (p2 : Int32) (p3 : Int32) (s0 : Int32), b_X9_plans_118 post r12 M p1 p2 p3 s0 → xW G M [some (.ref (xa G 81)), some (.int p1), some (.int p2), some (.int p3), none, none, none] [.int s0] 118 := by
  intro M p1 p2 p3 s0 h
  unfold b_X9_plans_118 at h
  refine x_istore hG dX9_plans_118 (Nat.le_of_ble_eq_true rfl) rfl ?_
  refine x_aload_n hG dX9_plans_120 rfl rfl ?_
  refine x_iload hG dX9_plans_121 rfl ?_
  refine x_aload_n hG dX9_plans_123 rfl rfl ?_
  refine x_get_9_26 hG dX9_plans_124 (rfl : kd 81 = 9) hin_X9_plans_X9 (List.mem_of_getElem? (i := 2) rfl) ?_
  refine x_icmp_le (tgt := 134) hG dX9_plans_127 (by decide) (fun hc1 => ?_) (fun hc1 => ?_)
  · have h := h.1 hc1
    refine x_aload_n hG dX9_plans_134 rfl rfl ?_
    refine x_get_9_25 hG dX9_plans_135 (rfl : kd 81 = 9) hin_X9_plans_X9 (List.mem_of_getElem? (i := 1) rfl) ?_
    refine x_keep [true, true, true, true, false, false, true] rfl ?_
    exact k_X9_plans_138 hG hQ hr12 _ _ _ _ _ _ h
  · have h := h.2 hc1
    refine x_iload_n hG dX9_plans_130 rfl rfl ?_
    refine x_goto (tgt := 138) hG dX9_plans_131 (by decide) ?_
    refine x_keep [true, true, true, true, false, false, true] rfl ?_
    exact k_X9_plans_138 hG hQ hr12 _ _ _ _ _ _ h
set_option maxRecDepth 100000 in
set_option maxHeartbeats 4000000 in
theorem k_X9_plans_64 {G : xG} {post : xMem → Prop} (hG : xOk G cX9_plans RX9 wsX9_plans rm_X9_plans) (hQ : xRetV G post) {r12 : xMem → Int32 → Int32 → Int32 → Prop} (hr12 : ∀ (M : xMem) (p1 : Int32) (p2 : Int32) (p3 : Int32), r12 M p1 p2 p3 → xW G M [some (.ref (xa G 81)), some (.int p1), some (.int p2), some (.int p3), none, none, none] [] 12) {r28 : xMem → Int32 → Int32 → Int32 → Int32 → Int32 → Prop} (hr28 : ∀ (M : xMem) (p1 : Int32) (p2 : Int32) (p3 : Int32) (p4 : Int32) (p5 : Int32), r28 M p1 p2 p3 p4 p5 → xW G M [some (.ref (xa G 81)), some (.int p1), some (.int p2), some (.int p3), some (.int p4), some (.int p5), none] [] 28) : ∀ (M : xMem) (p1 : Int32) (p2 : Int32) (p3 : Int32) (p5 : Int32) (s0 : Int32) (s1 : Int32), b_X9_plans_64 post r12 r28 M p1 p2 p3 p5 s0 s1 → xW G M [some (.ref (xa G 81)), some (.int p1), some (.int p2), some (.int p3), none, some (.int p5), none] [.int s1, .int s0] 64 := by
  intro M p1 p2 p3 p5 s0 s1 h
  unfold b_X9_plans_64 at h
  refine x_iadd hG dX9_plans_64 ?_
  refine x_istore hG dX9_plans_65 (Nat.le_of_ble_eq_true rfl) rfl ?_
  refine x_iinc (v := _) hG dX9_plans_67 rfl (x_iincE (k := 1) (by decide)) (Nat.le_of_ble_eq_true rfl) rfl ?_
  refine x_goto (tgt := 28) hG dX9_plans_70 (by decide) ?_
  refine x_keep [true, true, true, true, true, true, false] rfl ?_
  exact hr28 _ _ _ _ _ _ h
set_option maxRecDepth 100000 in
set_option maxHeartbeats 4000000 in
theorem k_X9_plans_28 {G : xG} {post : xMem → Prop} (hG : xOk G cX9_plans RX9 wsX9_plans rm_X9_plans) (hQ : xRetV G post) {r12 : xMem → Int32 → Int32 → Int32 → Prop} (hr12 : ∀ (M : xMem) (p1 : Int32) (p2 : Int32) (p3 : Int32), r12 M p1 p2 p3 → xW G M [some (.ref (xa G 81)), some (.int p1), some (.int p2), some (.int p3), none, none, none] [] 12) : ∀ (M : xMem) (p1 : Int32) (p2 : Int32) (p3 : Int32) (p4 : Int32) (p5 : Int32), xlp6 (b_X9_plans_28 post r12) M p1 p2 p3 p4 p5 → xW G M [some (.ref (xa G 81)), some (.int p1), some (.int p2), some (.int p3), some (.int p4), some (.int p5), none] [] 28 := by
  refine xlp6_W (W := fun M p1 p2 p3 p4 p5 => xW G M [some (.ref (xa G 81)), some (.int p1), some (.int p2), some (.int p3), some (.int p4), some (.int p5), none] [] 28) (fun r28 hr28 => ?_)
  intro M p1 p2 p3 p4 p5 h
  unfold b_X9_plans_28 at h
  refine x_iload hG dX9_plans_28 rfl ?_
  refine x_aload_n hG dX9_plans_30 rfl rfl ?_
  refine x_get_9_20 hG dX9_plans_31 (rfl : kd 81 = 9) hin_X9_plans_X9 (List.mem_of_getElem? (i := 3) rfl) ?_
  refine x_icmp_ge (tgt := 73) hG dX9_plans_34 (by decide) (fun hc1 => ?_) (fun hc1 => ?_)
  · have h := h.1 hc1
    refine x_iload hG dX9_plans_73 rfl ?_
    refine x_aload_n hG dX9_plans_75 rfl rfl ?_
    refine x_get_9_26 hG dX9_plans_76 (rfl : kd 81 = 9) hin_X9_plans_X9 (List.mem_of_getElem? (i := 2) rfl) ?_
    refine x_icmp_le (tgt := 163) hG dX9_plans_79 (by decide) (fun hc2 => ?_) (fun hc2 => ?_)
    · have h := h.1 hc2
      refine x_keep [true, true, true, true, false, false, false] rfl ?_
      exact k_X9_plans_163 hG hQ hr12 _ _ _ _ h
    · have h := h.2 hc2
      refine x_aload_n hG dX9_plans_82 rfl rfl ?_
      refine x_iload_n hG dX9_plans_83 rfl rfl ?_
      refine x_iload_n hG dX9_plans_84 rfl rfl ?_
      refine x_cVI2 hG dX9_plans_85 (fun ha => c_X9_brokenBy ha h) gX9_plans_X9_brokenBy rfl ⟨rfl, rfl⟩ hy_X9_brokenBy ⟨Nat.le_of_ble_eq_true rfl, Nat.le_of_ble_eq_true rfl⟩ (kd_lt (rfl : kd 81 = 9) (by decide)) (fun _ => xc_9 (rfl : kd 81 = 9)) rfl (Nat.le_of_ble_eq_true rfl) (fun z3 M4 h => ?_)
      refine x_istore hG dX9_plans_88 (Nat.le_of_ble_eq_true rfl) rfl ?_
      refine x_iload_n hG dX9_plans_90 rfl rfl ?_
      refine x_iconst (v := (1 : Int32)) hG dX9_plans_91 (by decide) ?_
      refine x_icmp_ne (tgt := 107) hG dX9_plans_92 (by decide) (fun hc5 => ?_) (fun hc5 => ?_)
      · have h := h.1 hc5
        refine x_iload hG dX9_plans_107 rfl ?_
        refine x_if_ne (tgt := 117) hG dX9_plans_109 (by decide) (fun hc6 => ?_) (fun hc6 => ?_)
        · have h := h.1 hc6
          refine x_iconst (v := (0 : Int32)) hG dX9_plans_117 (by decide) ?_
          refine x_keep [true, true, true, true, false, false, false] rfl ?_
          exact k_X9_plans_118 hG hQ hr12 _ _ _ _ _ h
        · have h := h.2 hc6
          refine x_iload hG dX9_plans_112 rfl ?_
          refine x_goto (tgt := 118) hG dX9_plans_114 (by decide) ?_
          refine x_keep [true, true, true, true, false, false, false] rfl ?_
          exact k_X9_plans_118 hG hQ hr12 _ _ _ _ _ h
      · have h := h.2 hc5
        refine x_iload hG dX9_plans_95 rfl ?_
        refine x_aload_n hG dX9_plans_97 rfl rfl ?_
        refine x_iload hG dX9_plans_98 rfl ?_
        refine x_cVI1 hG dX9_plans_100 (fun ha => c_X9_pricesOf ha h) gX9_plans_X9_pricesOf rfl ⟨rfl, rfl⟩ hy_X9_pricesOf ⟨Nat.le_of_ble_eq_true rfl, Nat.le_of_ble_eq_true rfl⟩ (kd_lt (rfl : kd 81 = 9) (by decide)) (fun _ => xc_9 (rfl : kd 81 = 9)) rfl (Nat.le_of_ble_eq_true rfl) (fun z7 M8 h => ?_)
        refine x_isub hG dX9_plans_103 ?_
        refine x_goto (tgt := 118) hG dX9_plans_104 (by decide) ?_
        refine x_keep [true, true, true, true, false, false, false] rfl ?_
        exact k_X9_plans_118 hG hQ hr12 _ _ _ _ _ h
  · have h := h.2 hc1
    refine x_iload hG dX9_plans_37 rfl ?_
    refine x_iload_n hG dX9_plans_39 rfl rfl ?_
    refine x_iload hG dX9_plans_40 rfl ?_
    refine x_ishr hG dX9_plans_42 ?_
    refine x_iconst (v := (1 : Int32)) hG dX9_plans_43 (by decide) ?_
    refine x_iand hG dX9_plans_44 ?_
    refine x_iconst (v := (1 : Int32)) hG dX9_plans_45 (by decide) ?_
    refine x_icmp_ne (tgt := 63) hG dX9_plans_46 (by decide) (fun hc9 => ?_) (fun hc9 => ?_)
    · have h := h.1 hc9
      refine x_iconst (v := (0 : Int32)) hG dX9_plans_63 (by decide) ?_
      refine x_keep [true, true, true, true, false, true, false] rfl ?_
      exact k_X9_plans_64 hG hQ hr12 hr28 _ _ _ _ _ _ _ h
    · have h := h.2 hc9
      refine x_aload_n hG dX9_plans_49 rfl rfl ?_
      refine x_get_9_18 hG dX9_plans_50 (rfl : kd 81 = 9) hin_X9_plans_X9 (List.mem_of_getElem? (i := 4) rfl) ?_
      refine x_iconst (v := (4 : Int32)) hG dX9_plans_53 (by decide) ?_
      refine x_iload hG dX9_plans_54 rfl ?_
      refine x_imul hG dX9_plans_56 ?_
      refine x_iconst (v := (3 : Int32)) hG dX9_plans_57 (by decide) ?_
      refine x_iadd hG dX9_plans_58 ?_
      obtain ⟨hi10, h⟩ := h
      refine x_iaload hG dX9_plans_59 (kf_9_18 (rfl : kd 81 = 9)).1 (x_inE (kf_9_18 (rfl : kd 81 = 9)).2 hi10) ?_
      refine x_goto (tgt := 64) hG dX9_plans_60 (by decide) ?_
      refine x_keep [true, true, true, true, false, true, false] rfl ?_
      exact k_X9_plans_64 hG hQ hr12 hr28 _ _ _ _ _ _ _ h
set_option maxRecDepth 100000 in
set_option maxHeartbeats 4000000 in
theorem k_X9_plans_12 {G : xG} {post : xMem → Prop} (hG : xOk G cX9_plans RX9 wsX9_plans rm_X9_plans) (hQ : xRetV G post) : ∀ (M : xMem) (p1 : Int32) (p2 : Int32) (p3 : Int32), xlp4 (b_X9_plans_12 post) M p1 p2 p3 → xW G M [some (.ref (xa G 81)), some (.int p1), some (.int p2), some (.int p3), none, none, none] [] 12 := by
  refine xlp4_W (W := fun M p1 p2 p3 => xW G M [some (.ref (xa G 81)), some (.int p1), some (.int p2), some (.int p3), none, none, none] [] 12) (fun r12 hr12 => ?_)
  intro M p1 p2 p3 h
  unfold b_X9_plans_12 at h
  refine x_iload_n hG dX9_plans_12 rfl rfl ?_
  refine x_iconst (v := (1 : Int32)) hG dX9_plans_13 (by decide) ?_
  refine x_aload_n hG dX9_plans_14 rfl rfl ?_
  refine x_get_9_20 hG dX9_plans_15 (rfl : kd 81 = 9) hin_X9_plans_X9 (List.mem_of_getElem? (i := 3) rfl) ?_
  refine x_ishl hG dX9_plans_18 ?_
  refine x_icmp_ge (tgt := 169) hG dX9_plans_19 (by decide) (fun hc1 => ?_) (fun hc1 => ?_)
  · have h := h.1 hc1
    exact x_vret hG hQ dX9_plans_169 h
  · have h := h.2 hc1
    refine x_iconst (v := (0 : Int32)) hG dX9_plans_22 (by decide) ?_
    refine x_istore hG dX9_plans_23 (Nat.le_of_ble_eq_true rfl) rfl ?_
    refine x_iconst (v := (0 : Int32)) hG dX9_plans_25 (by decide) ?_
    refine x_istore hG dX9_plans_26 (Nat.le_of_ble_eq_true rfl) rfl ?_
    refine x_keep [true, true, true, true, true, true, false] rfl ?_
    exact k_X9_plans_28 hG hQ hr12 _ _ _ _ _ _ h
set_option maxRecDepth 100000 in
set_option maxHeartbeats 4000000 in
theorem c_X9_plans {l : Launch} {a : Nat → Nat} {M : xMem} {p1 : Int32} {p2 : Int32} {post : xMem → Prop} (ha : xInj a) (h : w_X9_plans M p1 p2 post) : ∀ D cs sz, xMetV l yX9_plans wsX9_plans rm_X9_plans D a cs sz M [.ref (a 81), .int p1, .int p2] post := by
  intro D cs sz
  unfold w_X9_plans at h
  refine x_metV [some (.ref (a 81)), some (.int p1), some (.int p2), none, none, none, none] (by decide) rfl rfl (Nat.le_of_ble_eq_true rfl) rfl rfl ha D cs sz rfl (fun G e1 e2 hG hQ => ?_)
  subst e1
  subst e2
  refine x_aload_n hG dX9_plans_0 rfl rfl ?_
  refine x_iconst (v := (0 : Int32)) hG dX9_plans_1 (by decide) ?_
  have h := h _ rfl
  refine x_put_9_25 hG dX9_plans_2 (rfl : kd 81 = 9) hin_X9_plans_X9 (List.mem_of_getElem? (i := 1) rfl) ?_
  refine x_aload_n hG dX9_plans_5 rfl rfl ?_
  refine x_iconst (v := (0 : Int32)) hG dX9_plans_6 (by decide) ?_
  have h := h _ rfl
  refine x_put_9_26 hG dX9_plans_7 (rfl : kd 81 = 9) hin_X9_plans_X9 (List.mem_of_getElem? (i := 2) rfl) ?_
  refine x_iconst (v := (1 : Int32)) hG dX9_plans_10 (by decide) ?_
  refine x_istore_n hG dX9_plans_11 rfl (Nat.le_of_ble_eq_true rfl) rfl ?_
  refine x_keep [true, true, true, true, false, false, false] rfl ?_
  exact k_X9_plans_12 hG hQ _ _ _ _ h
abbrev rm_X9_plan : Room := { frames := 5, cells := 0, slots := 0, locals := 122 }
theorem hy_X9_plan : yX9_plan.cls = RX9 ∧ yX9_plan.cls ≠ "java/lang/invoke/MethodHandle" ∧ yX9_plan.cls ≠ "java/lang/invoke/VarHandle" ∧ (parseMethodDescriptor yX9_plan.desc).map (fun d => d.parameters.length) = some 3 := by decide +kernel
theorem hin_X9_plan_X9 : ∀ w ∈ wsX90, w ∈ wsX9_plan := fun _ h => List.mem_cons_of_mem _ (List.mem_append_right _ h)
set_option maxRecDepth 100000 in
set_option maxHeartbeats 4000000 in
theorem c_X9_plan {l : Launch} {a : Nat → Nat} {M : xMem} {p1 : Int32} {p2 : Int32} {p3 : Int32} {post : Int32 → xMem → Prop} (ha : xInj a) (h : w_X9_plan M p1 p2 p3 post) : ∀ D cs sz, xMetI l yX9_plan wsX9_plan rm_X9_plan D a cs sz M [.ref (a 81), .int p1, .int p2, .int p3] post := by
  intro D cs sz
  unfold w_X9_plan at h
  refine x_metI (ty := .int) [some (.ref (a 81)), some (.int p1), some (.int p2), some (.int p3)] (by decide) rfl rfl (Nat.le_of_ble_eq_true rfl) rfl rfl ha D cs sz rfl (fun G e1 e2 hG hQ => ?_)
  subst e1
  subst e2
  refine x_aload_n hG dX9_plan_0 rfl rfl ?_
  refine x_iconst (v := (0 : Int32)) hG dX9_plan_1 (by decide) ?_
  have h := h _ rfl
  refine x_put_9_0 hG dX9_plan_2 (rfl : kd 81 = 9) hin_X9_plan_X9 (List.mem_of_getElem? (i := 1) rfl) ?_
  refine x_iload_n hG dX9_plan_5 rfl rfl ?_
  refine x_cSI1 hG dX9_plan_6 (fun ha => c_X9_isHour ha h) gX9_plan_X9_isHour rfl ⟨rfl, rfl⟩ hy_X9_isHour ⟨Nat.le_of_ble_eq_true rfl, Nat.le_of_ble_eq_true rfl⟩ (Nat.le_of_ble_eq_true rfl) (fun z2 M3 h => ?_)
  refine x_if_eq (tgt := 26) hG dX9_plan_9 (by decide) (fun hc4 => ?_) (fun hc4 => ?_)
  · have h := h.1 hc4
    refine x_iconst (v := (-1 : Int32)) hG dX9_plan_26 (by decide) ?_
    exact x_iret hG hQ dX9_plan_27 rfl h
  · have h := h.2 hc4
    refine x_iload_n hG dX9_plan_12 rfl rfl ?_
    refine x_cSI1 hG dX9_plan_13 (fun ha => c_X9_isBit ha h) gX9_plan_X9_isBit rfl ⟨rfl, rfl⟩ hy_X9_isBit ⟨Nat.le_of_ble_eq_true rfl, Nat.le_of_ble_eq_true rfl⟩ (Nat.le_of_ble_eq_true rfl) (fun z5 M6 h => ?_)
    refine x_if_eq (tgt := 26) hG dX9_plan_16 (by decide) (fun hc7 => ?_) (fun hc7 => ?_)
    · have h := h.1 hc7
      refine x_iconst (v := (-1 : Int32)) hG dX9_plan_26 (by decide) ?_
      exact x_iret hG hQ dX9_plan_27 rfl h
    · have h := h.2 hc7
      refine x_iload_n hG dX9_plan_19 rfl rfl ?_
      refine x_cSI1 hG dX9_plan_20 (fun ha => c_X9_isBit ha h) gX9_plan_X9_isBit rfl ⟨rfl, rfl⟩ hy_X9_isBit ⟨Nat.le_of_ble_eq_true rfl, Nat.le_of_ble_eq_true rfl⟩ (Nat.le_of_ble_eq_true rfl) (fun z8 M9 h => ?_)
      refine x_if_ne (tgt := 28) hG dX9_plan_23 (by decide) (fun hc10 => ?_) (fun hc10 => ?_)
      · have h := h.1 hc10
        refine x_aload_n hG dX9_plan_28 rfl rfl ?_
        refine x_cVV0 hG dX9_plan_29 (fun ha => c_X9_spreadsAll ha h) gX9_plan_X9_spreadsAll rfl ⟨rfl, rfl⟩ hy_X9_spreadsAll ⟨Nat.le_of_ble_eq_true rfl, Nat.le_of_ble_eq_true rfl⟩ (kd_lt (rfl : kd 81 = 9) (by decide)) (fun _ => xc_9 (rfl : kd 81 = 9)) rfl (Nat.le_of_ble_eq_true rfl) (fun M12 h => ?_)
        refine x_aload_n hG dX9_plan_32 rfl rfl ?_
        refine x_iload_n hG dX9_plan_33 rfl rfl ?_
        refine x_iload_n hG dX9_plan_34 rfl rfl ?_
        refine x_cVV2 hG dX9_plan_35 (fun ha => c_X9_plans ha h) gX9_plan_X9_plans rfl ⟨rfl, rfl⟩ hy_X9_plans ⟨Nat.le_of_ble_eq_true rfl, Nat.le_of_ble_eq_true rfl⟩ (kd_lt (rfl : kd 81 = 9) (by decide)) (fun _ => xc_9 (rfl : kd 81 = 9)) rfl (Nat.le_of_ble_eq_true rfl) (fun M14 h => ?_)
        refine x_iload_n hG dX9_plan_38 rfl rfl ?_
        refine x_if_ne (tgt := 49) hG dX9_plan_39 (by decide) (fun hc15 => ?_) (fun hc15 => ?_)
        · have h := h.1 hc15
          refine x_aload_n hG dX9_plan_49 rfl rfl ?_
          refine x_get_9_26 hG dX9_plan_50 (rfl : kd 81 = 9) hin_X9_plan_X9 (List.mem_of_getElem? (i := 3) rfl) ?_
          exact x_iret hG hQ dX9_plan_53 rfl h
        · have h := h.2 hc15
          refine x_aload_n hG dX9_plan_42 rfl rfl ?_
          refine x_get_9_25 hG dX9_plan_43 (rfl : kd 81 = 9) hin_X9_plan_X9 (List.mem_of_getElem? (i := 2) rfl) ?_
          refine x_goto (tgt := 53) hG dX9_plan_46 (by decide) ?_
          exact x_iret hG hQ dX9_plan_53 rfl h
      · have h := h.2 hc10
        refine x_iconst (v := (-1 : Int32)) hG dX9_plan_26 (by decide) ?_
        exact x_iret hG hQ dX9_plan_27 rfl h
abbrev rm_X9_dayOf : Room := { frames := 5, cells := 0, slots := 0, locals := 122 }
theorem hy_X9_dayOf : yX9_dayOf.cls = RX9 ∧ yX9_dayOf.cls ≠ "java/lang/invoke/MethodHandle" ∧ yX9_dayOf.cls ≠ "java/lang/invoke/VarHandle" ∧ (parseMethodDescriptor yX9_dayOf.desc).map (fun d => d.parameters.length) = some 1 := by decide +kernel
theorem hin_X9_dayOf_X9 : ∀ w ∈ wsX90, w ∈ wsX9_dayOf := fun _ h => List.mem_cons_of_mem _ (List.mem_append_right _ h)
set_option maxRecDepth 100000 in
set_option maxHeartbeats 4000000 in
theorem k_X9_dayOf_8 {G : xG} {post : Int32 → xMem → Prop} (hG : xOk G cX9_dayOf RX9 wsX9_dayOf rm_X9_dayOf) (hQ : xRetI G post .int) : ∀ (M : xMem) (p1 : Int32) (p2 : Int32) (p3 : Int32), xlp4 (b_X9_dayOf_8 post) M p1 p2 p3 → xW G M [some (.ref (xa G 81)), some (.int p1), some (.int p2), some (.int p3)] [] 8 := by
  refine xlp4_W (W := fun M p1 p2 p3 => xW G M [some (.ref (xa G 81)), some (.int p1), some (.int p2), some (.int p3)] [] 8) (fun r8 hr8 => ?_)
  intro M p1 p2 p3 h
  unfold b_X9_dayOf_8 at h
  refine x_iload_n hG dX9_dayOf_8 rfl rfl ?_
  refine x_bipush (v := (12 : Int32)) hG dX9_dayOf_9 (by decide) ?_
  refine x_icmp_ge (tgt := 33) hG dX9_dayOf_11 (by decide) (fun hc1 => ?_) (fun hc1 => ?_)
  · have h := h.1 hc1
    refine x_iload_n hG dX9_dayOf_33 rfl rfl ?_
    exact x_iret hG hQ dX9_dayOf_34 rfl h
  · have h := h.2 hc1
    refine x_aload_n hG dX9_dayOf_14 rfl rfl ?_
    refine x_iload_n hG dX9_dayOf_15 rfl rfl ?_
    refine x_iload_n hG dX9_dayOf_16 rfl rfl ?_
    refine x_cVV2 hG dX9_dayOf_17 (fun ha => c_X9_plans ha h) gX9_dayOf_X9_plans rfl ⟨rfl, rfl⟩ hy_X9_plans ⟨Nat.le_of_ble_eq_true rfl, Nat.le_of_ble_eq_true rfl⟩ (kd_lt (rfl : kd 81 = 9) (by decide)) (fun _ => xc_9 (rfl : kd 81 = 9)) rfl (Nat.le_of_ble_eq_true rfl) (fun M3 h => ?_)
    refine x_iload_n hG dX9_dayOf_20 rfl rfl ?_
    refine x_aload_n hG dX9_dayOf_21 rfl rfl ?_
    refine x_get_9_26 hG dX9_dayOf_22 (rfl : kd 81 = 9) hin_X9_dayOf_X9 (List.mem_of_getElem? (i := 1) rfl) ?_
    refine x_iadd hG dX9_dayOf_25 ?_
    refine x_istore_n hG dX9_dayOf_26 rfl (Nat.le_of_ble_eq_true rfl) rfl ?_
    refine x_iinc (v := _) hG dX9_dayOf_27 rfl (x_iincE (k := 1) (by decide)) (Nat.le_of_ble_eq_true rfl) rfl ?_
    refine x_goto (tgt := 8) hG dX9_dayOf_30 (by decide) ?_
    refine x_keep [true, true, true, true] rfl ?_
    exact hr8 _ _ _ _ h
set_option maxRecDepth 100000 in
set_option maxHeartbeats 4000000 in
theorem c_X9_dayOf {l : Launch} {a : Nat → Nat} {M : xMem} {p1 : Int32} {post : Int32 → xMem → Prop} (ha : xInj a) (h : w_X9_dayOf M p1 post) : ∀ D cs sz, xMetI l yX9_dayOf wsX9_dayOf rm_X9_dayOf D a cs sz M [.ref (a 81), .int p1] post := by
  intro D cs sz
  unfold w_X9_dayOf at h
  refine x_metI (ty := .int) [some (.ref (a 81)), some (.int p1), none, none] (by decide) rfl rfl (Nat.le_of_ble_eq_true rfl) rfl rfl ha D cs sz rfl (fun G e1 e2 hG hQ => ?_)
  subst e1
  subst e2
  refine x_aload_n hG dX9_dayOf_0 rfl rfl ?_
  refine x_cVV0 hG dX9_dayOf_1 (fun ha => c_X9_spreadsAll ha h) gX9_dayOf_X9_spreadsAll rfl ⟨rfl, rfl⟩ hy_X9_spreadsAll ⟨Nat.le_of_ble_eq_true rfl, Nat.le_of_ble_eq_true rfl⟩ (kd_lt (rfl : kd 81 = 9) (by decide)) (fun _ => xc_9 (rfl : kd 81 = 9)) rfl (Nat.le_of_ble_eq_true rfl) (fun M2 h => ?_)
  refine x_iconst (v := (0 : Int32)) hG dX9_dayOf_4 (by decide) ?_
  refine x_istore_n hG dX9_dayOf_5 rfl (Nat.le_of_ble_eq_true rfl) rfl ?_
  refine x_iconst (v := (0 : Int32)) hG dX9_dayOf_6 (by decide) ?_
  refine x_istore_n hG dX9_dayOf_7 rfl (Nat.le_of_ble_eq_true rfl) rfl ?_
  refine x_keep [true, true, true, true] rfl ?_
  exact k_X9_dayOf_8 hG hQ _ _ _ _ h
abbrev rm_X9_day : Room := { frames := 6, cells := 0, slots := 0, locals := 145 }
theorem hy_X9_day : yX9_day.cls = RX9 ∧ yX9_day.cls ≠ "java/lang/invoke/MethodHandle" ∧ yX9_day.cls ≠ "java/lang/invoke/VarHandle" ∧ (parseMethodDescriptor yX9_day.desc).map (fun d => d.parameters.length) = some 1 := by decide +kernel
theorem hin_X9_day_X9 : ∀ w ∈ wsX90, w ∈ wsX9_day := fun _ h => List.mem_cons_of_mem _ (List.mem_append_right _ h)
set_option maxRecDepth 100000 in
set_option maxHeartbeats 4000000 in
theorem c_X9_day {l : Launch} {a : Nat → Nat} {M : xMem} {p1 : Int32} {post : Int32 → xMem → Prop} (ha : xInj a) (h : w_X9_day M p1 post) : ∀ D cs sz, xMetI l yX9_day wsX9_day rm_X9_day D a cs sz M [.ref (a 81), .int p1] post := by
  intro D cs sz
  unfold w_X9_day at h
  refine x_metI (ty := .int) [some (.ref (a 81)), some (.int p1)] (by decide) rfl rfl (Nat.le_of_ble_eq_true rfl) rfl rfl ha D cs sz rfl (fun G e1 e2 hG hQ => ?_)
  subst e1
  subst e2
  refine x_aload_n hG dX9_day_0 rfl rfl ?_
  refine x_iconst (v := (0 : Int32)) hG dX9_day_1 (by decide) ?_
  have h := h _ rfl
  refine x_put_9_0 hG dX9_day_2 (rfl : kd 81 = 9) hin_X9_day_X9 (List.mem_of_getElem? (i := 1) rfl) ?_
  refine x_iload_n hG dX9_day_5 rfl rfl ?_
  refine x_cSI1 hG dX9_day_6 (fun ha => c_X9_isBit ha h) gX9_day_X9_isBit rfl ⟨rfl, rfl⟩ hy_X9_isBit ⟨Nat.le_of_ble_eq_true rfl, Nat.le_of_ble_eq_true rfl⟩ (Nat.le_of_ble_eq_true rfl) (fun z2 M3 h => ?_)
  refine x_if_eq (tgt := 20) hG dX9_day_9 (by decide) (fun hc4 => ?_) (fun hc4 => ?_)
  · have h := h.1 hc4
    refine x_iconst (v := (-1 : Int32)) hG dX9_day_20 (by decide) ?_
    exact x_iret hG hQ dX9_day_21 rfl h
  · have h := h.2 hc4
    refine x_aload_n hG dX9_day_12 rfl rfl ?_
    refine x_iload_n hG dX9_day_13 rfl rfl ?_
    refine x_cVI1 hG dX9_day_14 (fun ha => c_X9_dayOf ha h) gX9_day_X9_dayOf rfl ⟨rfl, rfl⟩ hy_X9_dayOf ⟨Nat.le_of_ble_eq_true rfl, Nat.le_of_ble_eq_true rfl⟩ (kd_lt (rfl : kd 81 = 9) (by decide)) (fun _ => xc_9 (rfl : kd 81 = 9)) rfl (Nat.le_of_ble_eq_true rfl) (fun z5 M6 h => ?_)
    refine x_goto (tgt := 21) hG dX9_day_17 (by decide) ?_
    exact x_iret hG hQ dX9_day_21 rfl h
abbrev rm_X9_best : Room := { frames := 6, cells := 0, slots := 0, locals := 145 }
theorem hy_X9_best : yX9_best.cls = RX9 ∧ yX9_best.cls ≠ "java/lang/invoke/MethodHandle" ∧ yX9_best.cls ≠ "java/lang/invoke/VarHandle" ∧ (parseMethodDescriptor yX9_best.desc).map (fun d => d.parameters.length) = some 3 := by decide +kernel
theorem hin_X9_best_X9 : ∀ w ∈ wsX90, w ∈ wsX9_best := fun _ h => List.mem_cons_of_mem _ (List.mem_append_right _ h)
set_option maxRecDepth 100000 in
set_option maxHeartbeats 4000000 in
theorem k_X9_best_235 {G : xG} {post : Int32 → xMem → Prop} (hG : xOk G cX9_best RX9 wsX9_best rm_X9_best) (hQ : xRetI G post .int) : ∀ (M : xMem) (p5 : Int32), b_X9_best_235 post M p5 → xW G M [none, none, none, none, none, some (.int p5), none, none, none, none] [] 235 := by
  intro M p5 h
  unfold b_X9_best_235 at h
  refine x_iload hG dX9_best_235 rfl ?_
  refine x_goto (tgt := 242) hG dX9_best_237 (by decide) ?_
  exact x_iret hG hQ dX9_best_242 rfl h
set_option maxRecDepth 100000 in
set_option maxHeartbeats 4000000 in
theorem k_X9_best_212 {G : xG} {post : Int32 → xMem → Prop} (hG : xOk G cX9_best RX9 wsX9_best rm_X9_best) (hQ : xRetI G post .int) {r42 : xMem → Int32 → Int32 → Int32 → Int32 → Int32 → Int32 → Prop} (hr42 : ∀ (M : xMem) (p1 : Int32) (p2 : Int32) (p3 : Int32) (p4 : Int32) (p5 : Int32) (p6 : Int32), r42 M p1 p2 p3 p4 p5 p6 → xW G M [some (.ref (xa G 81)), some (.int p1), some (.int p2), some (.int p3), some (.int p4), some (.int p5), some (.int p6), none, none, none] [] 42) {r62 : xMem → Int32 → Int32 → Int32 → Int32 → Int32 → Int32 → Int32 → Prop} (hr62 : ∀ (M : xMem) (p1 : Int32) (p2 : Int32) (p3 : Int32) (p4 : Int32) (p5 : Int32) (p6 : Int32) (p7 : Int32), r62 M p1 p2 p3 p4 p5 p6 p7 → xW G M [some (.ref (xa G 81)), some (.int p1), some (.int p2), some (.int p3), some (.int p4), some (.int p5), some (.int p6), some (.int p7), none, none] [] 62) : ∀ (M : xMem) (p1 : Int32) (p2 : Int32) (p3 : Int32) (p4 : Int32) (p5 : Int32) (p6 : Int32) (p7 : Int32), b_X9_best_212 post r42 r62 M p1 p2 p3 p4 p5 p6 p7 → xW G M [some (.ref (xa G 81)), some (.int p1), some (.int p2), some (.int p3), some (.int p4), some (.int p5), some (.int p6), some (.int p7), none, none] [] 212 := by
  intro M p1 p2 p3 p4 p5 p6 p7 h
  unfold b_X9_best_212 at h
  refine x_iinc (v := _) hG dX9_best_212 rfl (x_iincE (k := 1) (by decide)) (Nat.le_of_ble_eq_true rfl) rfl ?_
  refine x_goto (tgt := 62) hG dX9_best_215 (by decide) ?_
  refine x_keep [true, true, true, true, true, true, true, true, false, false] rfl ?_
  exact hr62 _ _ _ _ _ _ _ _ h
set_option maxRecDepth 100000 in
set_option maxHeartbeats 4000000 in
theorem k_X9_best_210 {G : xG} {post : Int32 → xMem → Prop} (hG : xOk G cX9_best RX9 wsX9_best rm_X9_best) (hQ : xRetI G post .int) {r42 : xMem → Int32 → Int32 → Int32 → Int32 → Int32 → Int32 → Prop} (hr42 : ∀ (M : xMem) (p1 : Int32) (p2 : Int32) (p3 : Int32) (p4 : Int32) (p5 : Int32) (p6 : Int32), r42 M p1 p2 p3 p4 p5 p6 → xW G M [some (.ref (xa G 81)), some (.int p1), some (.int p2), some (.int p3), some (.int p4), some (.int p5), some (.int p6), none, none, none] [] 42) {r62 : xMem → Int32 → Int32 → Int32 → Int32 → Int32 → Int32 → Int32 → Prop} (hr62 : ∀ (M : xMem) (p1 : Int32) (p2 : Int32) (p3 : Int32) (p4 : Int32) (p5 : Int32) (p6 : Int32) (p7 : Int32), r62 M p1 p2 p3 p4 p5 p6 p7 → xW G M [some (.ref (xa G 81)), some (.int p1), some (.int p2), some (.int p3), some (.int p4), some (.int p5), some (.int p6), some (.int p7), none, none] [] 62) : ∀ (M : xMem) (p1 : Int32) (p2 : Int32) (p3 : Int32) (p5 : Int32) (p6 : Int32) (p7 : Int32) (s0 : Int32), b_X9_best_210 post r42 r62 M p1 p2 p3 p5 p6 p7 s0 → xW G M [some (.ref (xa G 81)), some (.int p1), some (.int p2), some (.int p3), none, some (.int p5), some (.int p6), some (.int p7), none, none] [.int s0] 210 := by
  intro M p1 p2 p3 p5 p6 p7 s0 h
  unfold b_X9_best_210 at h
  refine x_istore hG dX9_best_210 (Nat.le_of_ble_eq_true rfl) rfl ?_
  refine x_keep [true, true, true, true, true, true, true, true, false, false] rfl ?_
  exact k_X9_best_212 hG hQ hr42 hr62 _ _ _ _ _ _ _ _ h
set_option maxRecDepth 100000 in
set_option maxHeartbeats 4000000 in
theorem k_X9_best_194 {G : xG} {post : Int32 → xMem → Prop} (hG : xOk G cX9_best RX9 wsX9_best rm_X9_best) (hQ : xRetI G post .int) {r42 : xMem → Int32 → Int32 → Int32 → Int32 → Int32 → Int32 → Prop} (hr42 : ∀ (M : xMem) (p1 : Int32) (p2 : Int32) (p3 : Int32) (p4 : Int32) (p5 : Int32) (p6 : Int32), r42 M p1 p2 p3 p4 p5 p6 → xW G M [some (.ref (xa G 81)), some (.int p1), some (.int p2), some (.int p3), some (.int p4), some (.int p5), some (.int p6), none, none, none] [] 42) {r62 : xMem → Int32 → Int32 → Int32 → Int32 → Int32 → Int32 → Int32 → Prop} (hr62 : ∀ (M : xMem) (p1 : Int32) (p2 : Int32) (p3 : Int32) (p4 : Int32) (p5 : Int32) (p6 : Int32) (p7 : Int32), r62 M p1 p2 p3 p4 p5 p6 p7 → xW G M [some (.ref (xa G 81)), some (.int p1), some (.int p2), some (.int p3), some (.int p4), some (.int p5), some (.int p6), some (.int p7), none, none] [] 62) : ∀ (M : xMem) (p1 : Int32) (p2 : Int32) (p3 : Int32) (p4 : Int32) (p6 : Int32) (p7 : Int32) (p9 : Int32) (s0 : Int32), b_X9_best_194 post r42 r62 M p1 p2 p3 p4 p6 p7 p9 s0 → xW G M [some (.ref (xa G 81)), some (.int p1), some (.int p2), some (.int p3), some (.int p4), none, some (.int p6), some (.int p7), none, some (.int p9)] [.int s0] 194 := by
  intro M p1 p2 p3 p4 p6 p7 p9 s0 h
  unfold b_X9_best_194 at h
  refine x_istore hG dX9_best_194 (Nat.le_of_ble_eq_true rfl) rfl ?_
  refine x_iload hG dX9_best_196 rfl ?_
  refine x_iload hG dX9_best_198 rfl ?_
  refine x_icmp_le (tgt := 208) hG dX9_best_200 (by decide) (fun hc1 => ?_) (fun hc1 => ?_)
  · have h := h.1 hc1
    refine x_iload hG dX9_best_208 rfl ?_
    refine x_keep [true, true, true, true, false, true, true, true, false, false] rfl ?_
    exact k_X9_best_210 hG hQ hr42 hr62 _ _ _ _ _ _ _ _ h
  · have h := h.2 hc1
    refine x_iload hG dX9_best_203 rfl ?_
    refine x_goto (tgt := 210) hG dX9_best_205 (by decide) ?_
    refine x_keep [true, true, true, true, false, true, true, true, false, false] rfl ?_
    exact k_X9_best_210 hG hQ hr42 hr62 _ _ _ _ _ _ _ _ h
set_option maxRecDepth 100000 in
set_option maxHeartbeats 4000000 in
theorem k_X9_best_142 {G : xG} {post : Int32 → xMem → Prop} (hG : xOk G cX9_best RX9 wsX9_best rm_X9_best) (hQ : xRetI G post .int) {r42 : xMem → Int32 → Int32 → Int32 → Int32 → Int32 → Int32 → Prop} (hr42 : ∀ (M : xMem) (p1 : Int32) (p2 : Int32) (p3 : Int32) (p4 : Int32) (p5 : Int32) (p6 : Int32), r42 M p1 p2 p3 p4 p5 p6 → xW G M [some (.ref (xa G 81)), some (.int p1), some (.int p2), some (.int p3), some (.int p4), some (.int p5), some (.int p6), none, none, none] [] 42) {r62 : xMem → Int32 → Int32 → Int32 → Int32 → Int32 → Int32 → Int32 → Prop} (hr62 : ∀ (M : xMem) (p1 : Int32) (p2 : Int32) (p3 : Int32) (p4 : Int32) (p5 : Int32) (p6 : Int32) (p7 : Int32), r62 M p1 p2 p3 p4 p5 p6 p7 → xW G M [some (.ref (xa G 81)), some (.int p1), some (.int p2), some (.int p3), some (.int p4), some (.int p5), some (.int p6), some (.int p7), none, none] [] 62) : ∀ (M : xMem) (p1 : Int32) (p2 : Int32) (p3 : Int32) (p4 : Int32) (p5 : Int32) (p6 : Int32) (p7 : Int32) (p8 : Int32) (s0 : Int32) (s1 : Int32), b_X9_best_142 post r42 r62 M p1 p2 p3 p4 p5 p6 p7 p8 s0 s1 → xW G M [some (.ref (xa G 81)), some (.int p1), some (.int p2), some (.int p3), some (.int p4), some (.int p5), some (.int p6), some (.int p7), some (.int p8), none] [.int s1, .int s0] 142 := by
  intro M p1 p2 p3 p4 p5 p6 p7 p8 s0 s1 h
  unfold b_X9_best_142 at h
  refine x_icmp_ge (tgt := 212) hG dX9_best_142 (by decide) (fun hc1 => ?_) (fun hc1 => ?_)
  · have h := h.1 hc1
    refine x_keep [true, true, true, true, true, true, true, true, false, false] rfl ?_
    exact k_X9_best_212 hG hQ hr42 hr62 _ _ _ _ _ _ _ _ h
  · have h := h.2 hc1
    refine x_aload_n hG dX9_best_145 rfl rfl ?_
    refine x_get_9_14 hG dX9_best_146 (rfl : kd 81 = 9) hin_X9_best_X9 (List.mem_of_getElem? (i := 4) rfl) ?_
    refine x_iload hG dX9_best_149 rfl ?_
    refine x_dup2 hG dX9_best_151 rfl rfl ?_
    obtain ⟨hi2, h⟩ := h
    refine x_iaload hG dX9_best_152 (kf_9_14 (rfl : kd 81 = 9)).1 (x_inE (kf_9_14 (rfl : kd 81 = 9)).2 hi2) ?_
    refine x_iconst (v := (1 : Int32)) hG dX9_best_153 (by decide) ?_
    refine x_iadd hG dX9_best_154 ?_
    have h := h _ rfl
    refine x_iastore hG dX9_best_155 (kf_9_14 (rfl : kd 81 = 9)).1 (x_inE (kf_9_14 (rfl : kd 81 = 9)).2 hi2) ?_
    refine x_aload_n hG dX9_best_156 rfl rfl ?_
    refine x_iload_n hG dX9_best_157 rfl rfl ?_
    refine x_cVI1 hG dX9_best_158 (fun ha => c_X9_dayOf ha h) gX9_best_X9_dayOf rfl ⟨rfl, rfl⟩ hy_X9_dayOf ⟨Nat.le_of_ble_eq_true rfl, Nat.le_of_ble_eq_true rfl⟩ (kd_lt (rfl : kd 81 = 9) (by decide)) (fun _ => xc_9 (rfl : kd 81 = 9)) rfl (Nat.le_of_ble_eq_true rfl) (fun z4 M5 h => ?_)
    refine x_istore hG dX9_best_161 (Nat.le_of_ble_eq_true rfl) rfl ?_
    refine x_aload_n hG dX9_best_163 rfl rfl ?_
    refine x_get_9_14 hG dX9_best_164 (rfl : kd 81 = 9) hin_X9_best_X9 (List.mem_of_getElem? (i := 4) rfl) ?_
    refine x_iload hG dX9_best_167 rfl ?_
    refine x_dup2 hG dX9_best_169 rfl rfl ?_
    refine x_iaload hG dX9_best_170 (kf_9_14 (rfl : kd 81 = 9)).1 (x_inE (kf_9_14 (rfl : kd 81 = 9)).2 hi2) ?_
    refine x_iconst (v := (1 : Int32)) hG dX9_best_171 (by decide) ?_
    refine x_isub hG dX9_best_172 ?_
    have h := h _ rfl
    refine x_iastore hG dX9_best_173 (kf_9_14 (rfl : kd 81 = 9)).1 (x_inE (kf_9_14 (rfl : kd 81 = 9)).2 hi2) ?_
    refine x_iload hG dX9_best_174 rfl ?_
    refine x_iload hG dX9_best_176 rfl ?_
    refine x_icmp_le (tgt := 192) hG dX9_best_178 (by decide) (fun hc7 => ?_) (fun hc7 => ?_)
    · have h := h.1 hc7
      refine x_iload hG dX9_best_192 rfl ?_
      refine x_keep [true, true, true, true, true, false, true, true, false, true] rfl ?_
      exact k_X9_best_194 hG hQ hr42 hr62 _ _ _ _ _ _ _ _ _ h
    · have h := h.2 hc7
      refine x_bipush (v := (100 : Int32)) hG dX9_best_181 (by decide) ?_
      refine x_iload hG dX9_best_183 rfl ?_
      refine x_imul hG dX9_best_185 ?_
      refine x_iload hG dX9_best_186 rfl ?_
      refine x_iadd hG dX9_best_188 ?_
      refine x_goto (tgt := 194) hG dX9_best_189 (by decide) ?_
      refine x_keep [true, true, true, true, true, false, true, true, false, true] rfl ?_
      exact k_X9_best_194 hG hQ hr42 hr62 _ _ _ _ _ _ _ _ _ h
set_option maxRecDepth 100000 in
set_option maxHeartbeats 4000000 in
theorem k_X9_best_116 {G : xG} {post : Int32 → xMem → Prop} (hG : xOk G cX9_best RX9 wsX9_best rm_X9_best) (hQ : xRetI G post .int) {r42 : xMem → Int32 → Int32 → Int32 → Int32 → Int32 → Int32 → Prop} (hr42 : ∀ (M : xMem) (p1 : Int32) (p2 : Int32) (p3 : Int32) (p4 : Int32) (p5 : Int32) (p6 : Int32), r42 M p1 p2 p3 p4 p5 p6 → xW G M [some (.ref (xa G 81)), some (.int p1), some (.int p2), some (.int p3), some (.int p4), some (.int p5), some (.int p6), none, none, none] [] 42) {r62 : xMem → Int32 → Int32 → Int32 → Int32 → Int32 → Int32 → Int32 → Prop} (hr62 : ∀ (M : xMem) (p1 : Int32) (p2 : Int32) (p3 : Int32) (p4 : Int32) (p5 : Int32) (p6 : Int32) (p7 : Int32), r62 M p1 p2 p3 p4 p5 p6 p7 → xW G M [some (.ref (xa G 81)), some (.int p1), some (.int p2), some (.int p3), some (.int p4), some (.int p5), some (.int p6), some (.int p7), none, none] [] 62) : ∀ (M : xMem) (p1 : Int32) (p2 : Int32) (p3 : Int32) (p4 : Int32) (p5 : Int32) (p6 : Int32) (p7 : Int32) (s0 : Int32), b_X9_best_116 post r42 r62 M p1 p2 p3 p4 p5 p6 p7 s0 → xW G M [some (.ref (xa G 81)), some (.int p1), some (.int p2), some (.int p3), some (.int p4), some (.int p5), some (.int p6), some (.int p7), none, none] [.int s0] 116 := by
  intro M p1 p2 p3 p4 p5 p6 p7 s0 h
  unfold b_X9_best_116 at h
  refine x_istore hG dX9_best_116 (Nat.le_of_ble_eq_true rfl) rfl ?_
  refine x_iload hG dX9_best_118 rfl ?_
  refine x_bipush (v := (-9 : Int32)) hG dX9_best_120 (by decide) ?_
  refine x_icmp_eq (tgt := 212) hG dX9_best_122 (by decide) (fun hc1 => ?_) (fun hc1 => ?_)
  · have h := h.1 hc1
    refine x_keep [true, true, true, true, true, true, true, true, false, false] rfl ?_
    exact k_X9_best_212 hG hQ hr42 hr62 _ _ _ _ _ _ _ _ h
  · have h := h.2 hc1
    refine x_aload_n hG dX9_best_125 rfl rfl ?_
    refine x_get_9_14 hG dX9_best_126 (rfl : kd 81 = 9) hin_X9_best_X9 (List.mem_of_getElem? (i := 4) rfl) ?_
    refine x_iload hG dX9_best_129 rfl ?_
    obtain ⟨hi2, h⟩ := h
    refine x_iaload hG dX9_best_131 (kf_9_14 (rfl : kd 81 = 9)).1 (x_inE (kf_9_14 (rfl : kd 81 = 9)).2 hi2) ?_
    refine x_iload_n hG dX9_best_132 rfl rfl ?_
    refine x_if_ne (tgt := 140) hG dX9_best_133 (by decide) (fun hc3 => ?_) (fun hc3 => ?_)
    · have h := h.1 hc3
      refine x_bipush (v := (9 : Int32)) hG dX9_best_140 (by decide) ?_
      refine x_keep [true, true, true, true, true, true, true, true, true, false] rfl ?_
      exact k_X9_best_142 hG hQ hr42 hr62 _ _ _ _ _ _ _ _ _ _ _ h
    · have h := h.2 hc3
      refine x_iconst (v := (3 : Int32)) hG dX9_best_136 (by decide) ?_
      refine x_goto (tgt := 142) hG dX9_best_137 (by decide) ?_
      refine x_keep [true, true, true, true, true, true, true, true, true, false] rfl ?_
      exact k_X9_best_142 hG hQ hr42 hr62 _ _ _ _ _ _ _ _ _ _ _ h
set_option maxRecDepth 100000 in
set_option maxHeartbeats 4000000 in
theorem k_X9_best_108 {G : xG} {post : Int32 → xMem → Prop} (hG : xOk G cX9_best RX9 wsX9_best rm_X9_best) (hQ : xRetI G post .int) {r42 : xMem → Int32 → Int32 → Int32 → Int32 → Int32 → Int32 → Prop} (hr42 : ∀ (M : xMem) (p1 : Int32) (p2 : Int32) (p3 : Int32) (p4 : Int32) (p5 : Int32) (p6 : Int32), r42 M p1 p2 p3 p4 p5 p6 → xW G M [some (.ref (xa G 81)), some (.int p1), some (.int p2), some (.int p3), some (.int p4), some (.int p5), some (.int p6), none, none, none] [] 42) {r62 : xMem → Int32 → Int32 → Int32 → Int32 → Int32 → Int32 → Int32 → Prop} (hr62 : ∀ (M : xMem) (p1 : Int32) (p2 : Int32) (p3 : Int32) (p4 : Int32) (p5 : Int32) (p6 : Int32) (p7 : Int32), r62 M p1 p2 p3 p4 p5 p6 p7 → xW G M [some (.ref (xa G 81)), some (.int p1), some (.int p2), some (.int p3), some (.int p4), some (.int p5), some (.int p6), some (.int p7), none, none] [] 62) : ∀ (M : xMem) (p1 : Int32) (p2 : Int32) (p3 : Int32) (p4 : Int32) (p5 : Int32) (p6 : Int32) (p7 : Int32) (s0 : Int32) (s1 : Int32) (s2 : Int32) (s3 : Int32), b_X9_best_108 post r42 r62 M p1 p2 p3 p4 p5 p6 p7 s0 s1 s2 s3 → xW G M [some (.ref (xa G 81)), some (.int p1), some (.int p2), some (.int p3), some (.int p4), some (.int p5), some (.int p6), some (.int p7), none, none] [.int s3, .int s2, .int s1, .int s0] 108 := by
  intro M p1 p2 p3 p4 p5 p6 p7 s0 s1 s2 s3 h
  unfold b_X9_best_108 at h
  refine x_cSI4 hG dX9_best_108 (fun ha => c_X9_spotOf ha h) gX9_best_X9_spotOf rfl ⟨rfl, rfl⟩ hy_X9_spotOf ⟨Nat.le_of_ble_eq_true rfl, Nat.le_of_ble_eq_true rfl⟩ (Nat.le_of_ble_eq_true rfl) (fun z1 M2 h => ?_)
  refine x_goto (tgt := 116) hG dX9_best_111 (by decide) ?_
  refine x_keep [true, true, true, true, true, true, true, true, false, false] rfl ?_
  exact k_X9_best_116 hG hQ hr42 hr62 _ _ _ _ _ _ _ _ _ h
set_option maxRecDepth 100000 in
set_option maxHeartbeats 4000000 in
theorem k_X9_best_62 {G : xG} {post : Int32 → xMem → Prop} (hG : xOk G cX9_best RX9 wsX9_best rm_X9_best) (hQ : xRetI G post .int) {r42 : xMem → Int32 → Int32 → Int32 → Int32 → Int32 → Int32 → Prop} (hr42 : ∀ (M : xMem) (p1 : Int32) (p2 : Int32) (p3 : Int32) (p4 : Int32) (p5 : Int32) (p6 : Int32), r42 M p1 p2 p3 p4 p5 p6 → xW G M [some (.ref (xa G 81)), some (.int p1), some (.int p2), some (.int p3), some (.int p4), some (.int p5), some (.int p6), none, none, none] [] 42) : ∀ (M : xMem) (p1 : Int32) (p2 : Int32) (p3 : Int32) (p4 : Int32) (p5 : Int32) (p6 : Int32) (p7 : Int32), xlp8 (b_X9_best_62 post r42) M p1 p2 p3 p4 p5 p6 p7 → xW G M [some (.ref (xa G 81)), some (.int p1), some (.int p2), some (.int p3), some (.int p4), some (.int p5), some (.int p6), some (.int p7), none, none] [] 62 := by
  refine xlp8_W (W := fun M p1 p2 p3 p4 p5 p6 p7 => xW G M [some (.ref (xa G 81)), some (.int p1), some (.int p2), some (.int p3), some (.int p4), some (.int p5), some (.int p6), some (.int p7), none, none] [] 62) (fun r62 hr62 => ?_)
  intro M p1 p2 p3 p4 p5 p6 p7 h
  unfold b_X9_best_62 at h
  refine x_iload hG dX9_best_62 rfl ?_
  refine x_aload_n hG dX9_best_64 rfl rfl ?_
  refine x_get_9_9 hG dX9_best_65 (rfl : kd 81 = 9) hin_X9_best_X9 (List.mem_of_getElem? (i := 2) rfl) ?_
  refine x_aload_n hG dX9_best_68 rfl rfl ?_
  refine x_get_9_10 hG dX9_best_69 (rfl : kd 81 = 9) hin_X9_best_X9 (List.mem_of_getElem? (i := 3) rfl) ?_
  refine x_imul hG dX9_best_72 ?_
  refine x_icmp_ge (tgt := 218) hG dX9_best_73 (by decide) (fun hc1 => ?_) (fun hc1 => ?_)
  · have h := h.1 hc1
    refine x_iinc (v := _) hG dX9_best_218 rfl (x_iincE (k := 1) (by decide)) (Nat.le_of_ble_eq_true rfl) rfl ?_
    refine x_goto (tgt := 42) hG dX9_best_221 (by decide) ?_
    refine x_keep [true, true, true, true, true, true, true, false, false, false] rfl ?_
    exact hr42 _ _ _ _ _ _ _ h
  · have h := h.2 hc1
    refine x_iload hG dX9_best_76 rfl ?_
    refine x_iload hG dX9_best_78 rfl ?_
    refine x_aload_n hG dX9_best_80 rfl rfl ?_
    refine x_get_9_9 hG dX9_best_81 (rfl : kd 81 = 9) hin_X9_best_X9 (List.mem_of_getElem? (i := 2) rfl) ?_
    refine x_cSI3 hG dX9_best_84 (fun ha => c_X9_areBeside ha h) gX9_best_X9_areBeside rfl ⟨rfl, rfl⟩ hy_X9_areBeside ⟨Nat.le_of_ble_eq_true rfl, Nat.le_of_ble_eq_true rfl⟩ (Nat.le_of_ble_eq_true rfl) (fun z2 M3 h => ?_)
    refine x_if_eq (tgt := 114) hG dX9_best_87 (by decide) (fun hc4 => ?_) (fun hc4 => ?_)
    · have h := h.1 hc4
      refine x_bipush (v := (-9 : Int32)) hG dX9_best_114 (by decide) ?_
      refine x_keep [true, true, true, true, true, true, true, true, false, false] rfl ?_
      exact k_X9_best_116 hG hQ hr42 hr62 _ _ _ _ _ _ _ _ _ h
    · have h := h.2 hc4
      refine x_iload hG dX9_best_90 rfl ?_
      refine x_iload hG dX9_best_92 rfl ?_
      refine x_aload_n hG dX9_best_94 rfl rfl ?_
      refine x_get_9_9 hG dX9_best_95 (rfl : kd 81 = 9) hin_X9_best_X9 (List.mem_of_getElem? (i := 2) rfl) ?_
      refine x_iload_n hG dX9_best_98 rfl rfl ?_
      refine x_if_ne (tgt := 106) hG dX9_best_99 (by decide) (fun hc5 => ?_) (fun hc5 => ?_)
      · have h := h.1 hc5
        refine x_bipush (v := (96 : Int32)) hG dX9_best_106 (by decide) ?_
        refine x_keep [true, true, true, true, true, true, true, true, false, false] rfl ?_
        exact k_X9_best_108 hG hQ hr42 hr62 _ _ _ _ _ _ _ _ _ _ _ _ h
      · have h := h.2 hc5
        refine x_iconst (v := (0 : Int32)) hG dX9_best_102 (by decide) ?_
        refine x_goto (tgt := 108) hG dX9_best_103 (by decide) ?_
        refine x_keep [true, true, true, true, true, true, true, true, false, false] rfl ?_
        exact k_X9_best_108 hG hQ hr42 hr62 _ _ _ _ _ _ _ _ _ _ _ _ h
set_option maxRecDepth 100000 in
set_option maxHeartbeats 4000000 in
theorem k_X9_best_42 {G : xG} {post : Int32 → xMem → Prop} (hG : xOk G cX9_best RX9 wsX9_best rm_X9_best) (hQ : xRetI G post .int) : ∀ (M : xMem) (p1 : Int32) (p2 : Int32) (p3 : Int32) (p4 : Int32) (p5 : Int32) (p6 : Int32), xlp7 (b_X9_best_42 post) M p1 p2 p3 p4 p5 p6 → xW G M [some (.ref (xa G 81)), some (.int p1), some (.int p2), some (.int p3), some (.int p4), some (.int p5), some (.int p6), none, none, none] [] 42 := by
  refine xlp7_W (W := fun M p1 p2 p3 p4 p5 p6 => xW G M [some (.ref (xa G 81)), some (.int p1), some (.int p2), some (.int p3), some (.int p4), some (.int p5), some (.int p6), none, none, none] [] 42) (fun r42 hr42 => ?_)
  intro M p1 p2 p3 p4 p5 p6 h
  unfold b_X9_best_42 at h
  refine x_iload hG dX9_best_42 rfl ?_
  refine x_aload_n hG dX9_best_44 rfl rfl ?_
  refine x_get_9_9 hG dX9_best_45 (rfl : kd 81 = 9) hin_X9_best_X9 (List.mem_of_getElem? (i := 2) rfl) ?_
  refine x_aload_n hG dX9_best_48 rfl rfl ?_
  refine x_get_9_10 hG dX9_best_49 (rfl : kd 81 = 9) hin_X9_best_X9 (List.mem_of_getElem? (i := 3) rfl) ?_
  refine x_imul hG dX9_best_52 ?_
  refine x_icmp_ge (tgt := 224) hG dX9_best_53 (by decide) (fun hc1 => ?_) (fun hc1 => ?_)
  · have h := h.1 hc1
    refine x_iload hG dX9_best_224 rfl ?_
    refine x_bipush (v := (-9 : Int32)) hG dX9_best_226 (by decide) ?_
    refine x_icmp_eq (tgt := 235) hG dX9_best_228 (by decide) (fun hc2 => ?_) (fun hc2 => ?_)
    · have h := h.1 hc2
      refine x_keep [false, false, false, false, false, true, false, false, false, false] rfl ?_
      exact k_X9_best_235 hG hQ _ _ h
    · have h := h.2 hc2
      refine x_iload_n hG dX9_best_231 rfl rfl ?_
      refine x_if_ne (tgt := 240) hG dX9_best_232 (by decide) (fun hc3 => ?_) (fun hc3 => ?_)
      · have h := h.1 hc3
        refine x_iload hG dX9_best_240 rfl ?_
        exact x_iret hG hQ dX9_best_242 rfl h
      · have h := h.2 hc3
        refine x_keep [false, false, false, false, false, true, false, false, false, false] rfl ?_
        exact k_X9_best_235 hG hQ _ _ h
  · have h := h.2 hc1
    refine x_iload hG dX9_best_56 rfl ?_
    refine x_iconst (v := (1 : Int32)) hG dX9_best_58 (by decide) ?_
    refine x_iadd hG dX9_best_59 ?_
    refine x_istore hG dX9_best_60 (Nat.le_of_ble_eq_true rfl) rfl ?_
    refine x_keep [true, true, true, true, true, true, true, true, false, false] rfl ?_
    exact k_X9_best_62 hG hQ hr42 _ _ _ _ _ _ _ _ h
set_option maxRecDepth 100000 in
set_option maxHeartbeats 4000000 in
theorem c_X9_best {l : Launch} {a : Nat → Nat} {M : xMem} {p1 : Int32} {p2 : Int32} {p3 : Int32} {post : Int32 → xMem → Prop} (ha : xInj a) (h : w_X9_best M p1 p2 p3 post) : ∀ D cs sz, xMetI l yX9_best wsX9_best rm_X9_best D a cs sz M [.ref (a 81), .int p1, .int p2, .int p3] post := by
  intro D cs sz
  unfold w_X9_best at h
  refine x_metI (ty := .int) [some (.ref (a 81)), some (.int p1), some (.int p2), some (.int p3), none, none, none, none, none, none] (by decide) rfl rfl (Nat.le_of_ble_eq_true rfl) rfl rfl ha D cs sz rfl (fun G e1 e2 hG hQ => ?_)
  subst e1
  subst e2
  refine x_aload_n hG dX9_best_0 rfl rfl ?_
  refine x_iconst (v := (0 : Int32)) hG dX9_best_1 (by decide) ?_
  have h := h _ rfl
  refine x_put_9_0 hG dX9_best_2 (rfl : kd 81 = 9) hin_X9_best_X9 (List.mem_of_getElem? (i := 1) rfl) ?_
  refine x_iload_n hG dX9_best_5 rfl rfl ?_
  refine x_cSI1 hG dX9_best_6 (fun ha => c_X9_isBit ha h) gX9_best_X9_isBit rfl ⟨rfl, rfl⟩ hy_X9_isBit ⟨Nat.le_of_ble_eq_true rfl, Nat.le_of_ble_eq_true rfl⟩ (Nat.le_of_ble_eq_true rfl) (fun z2 M3 h => ?_)
  refine x_if_eq (tgt := 26) hG dX9_best_9 (by decide) (fun hc4 => ?_) (fun hc4 => ?_)
  · have h := h.1 hc4
    refine x_iconst (v := (-1 : Int32)) hG dX9_best_26 (by decide) ?_
    exact x_iret hG hQ dX9_best_27 rfl h
  · have h := h.2 hc4
    refine x_iload_n hG dX9_best_12 rfl rfl ?_
    refine x_cSI1 hG dX9_best_13 (fun ha => c_X9_isBit ha h) gX9_best_X9_isBit rfl ⟨rfl, rfl⟩ hy_X9_isBit ⟨Nat.le_of_ble_eq_true rfl, Nat.le_of_ble_eq_true rfl⟩ (Nat.le_of_ble_eq_true rfl) (fun z5 M6 h => ?_)
    refine x_if_eq (tgt := 26) hG dX9_best_16 (by decide) (fun hc7 => ?_) (fun hc7 => ?_)
    · have h := h.1 hc7
      refine x_iconst (v := (-1 : Int32)) hG dX9_best_26 (by decide) ?_
      exact x_iret hG hQ dX9_best_27 rfl h
    · have h := h.2 hc7
      refine x_iload_n hG dX9_best_19 rfl rfl ?_
      refine x_cSI1 hG dX9_best_20 (fun ha => c_X9_isBit ha h) gX9_best_X9_isBit rfl ⟨rfl, rfl⟩ hy_X9_isBit ⟨Nat.le_of_ble_eq_true rfl, Nat.le_of_ble_eq_true rfl⟩ (Nat.le_of_ble_eq_true rfl) (fun z8 M9 h => ?_)
      refine x_if_ne (tgt := 28) hG dX9_best_23 (by decide) (fun hc10 => ?_) (fun hc10 => ?_)
      · have h := h.1 hc10
        refine x_aload_n hG dX9_best_28 rfl rfl ?_
        refine x_iload_n hG dX9_best_29 rfl rfl ?_
        refine x_cVI1 hG dX9_best_30 (fun ha => c_X9_dayOf ha h) gX9_best_X9_dayOf rfl ⟨rfl, rfl⟩ hy_X9_dayOf ⟨Nat.le_of_ble_eq_true rfl, Nat.le_of_ble_eq_true rfl⟩ (kd_lt (rfl : kd 81 = 9) (by decide)) (fun _ => xc_9 (rfl : kd 81 = 9)) rfl (Nat.le_of_ble_eq_true rfl) (fun z11 M12 h => ?_)
        refine x_istore hG dX9_best_33 (Nat.le_of_ble_eq_true rfl) rfl ?_
        refine x_bipush (v := (-9 : Int32)) hG dX9_best_35 (by decide) ?_
        refine x_istore hG dX9_best_37 (Nat.le_of_ble_eq_true rfl) rfl ?_
        refine x_iconst (v := (0 : Int32)) hG dX9_best_39 (by decide) ?_
        refine x_istore hG dX9_best_40 (Nat.le_of_ble_eq_true rfl) rfl ?_
        refine x_keep [true, true, true, true, true, true, true, false, false, false] rfl ?_
        exact k_X9_best_42 hG hQ _ _ _ _ _ _ _ h
      · have h := h.2 hc10
        refine x_iconst (v := (-1 : Int32)) hG dX9_best_26 (by decide) ?_
        exact x_iret hG hQ dX9_best_27 rfl h
abbrev rm_X9_saw : Room := { frames := 4, cells := 0, slots := 0, locals := 101 }
theorem hy_X9_saw : yX9_saw.cls = RX9 ∧ yX9_saw.cls ≠ "java/lang/invoke/MethodHandle" ∧ yX9_saw.cls ≠ "java/lang/invoke/VarHandle" ∧ (parseMethodDescriptor yX9_saw.desc).map (fun d => d.parameters.length) = some 3 := by decide +kernel
theorem hin_X9_saw_X9 : ∀ w ∈ wsX90, w ∈ wsX9_saw := fun _ h => List.mem_cons_of_mem _ (List.mem_append_right _ h)
set_option maxRecDepth 100000 in
set_option maxHeartbeats 4000000 in
theorem k_X9_saw_195 {G : xG} {post : Int32 → xMem → Prop} (hG : xOk G cX9_saw RX9 wsX9_saw rm_X9_saw) (hQ : xRetI G post .int) {r41 : xMem → Int32 → Int32 → Int32 → Int32 → Int32 → Int32 → Prop} (hr41 : ∀ (M : xMem) (p1 : Int32) (p2 : Int32) (p3 : Int32) (p4 : Int32) (p5 : Int32) (p6 : Int32), r41 M p1 p2 p3 p4 p5 p6 → xW G M [some (.ref (xa G 81)), some (.int p1), some (.int p2), some (.int p3), some (.int p4), some (.int p5), some (.int p6), none, none, none] [] 41) : ∀ (M : xMem) (p1 : Int32) (p2 : Int32) (p3 : Int32) (p4 : Int32) (p5 : Int32) (p6 : Int32), b_X9_saw_195 post r41 M p1 p2 p3 p4 p5 p6 → xW G M [some (.ref (xa G 81)), some (.int p1), some (.int p2), some (.int p3), some (.int p4), some (.int p5), some (.int p6), none, none, none] [] 195 := by
  intro M p1 p2 p3 p4 p5 p6 h
  unfold b_X9_saw_195 at h
  refine x_iinc (v := _) hG dX9_saw_195 rfl (x_iincE (k := 1) (by decide)) (Nat.le_of_ble_eq_true rfl) rfl ?_
  refine x_goto (tgt := 41) hG dX9_saw_198 (by decide) ?_
  refine x_keep [true, true, true, true, true, true, true, false, false, false] rfl ?_
  exact hr41 _ _ _ _ _ _ _ h
set_option maxRecDepth 100000 in
set_option maxHeartbeats 4000000 in
theorem k_X9_saw_187 {G : xG} {post : Int32 → xMem → Prop} (hG : xOk G cX9_saw RX9 wsX9_saw rm_X9_saw) (hQ : xRetI G post .int) {r41 : xMem → Int32 → Int32 → Int32 → Int32 → Int32 → Int32 → Prop} (hr41 : ∀ (M : xMem) (p1 : Int32) (p2 : Int32) (p3 : Int32) (p4 : Int32) (p5 : Int32) (p6 : Int32), r41 M p1 p2 p3 p4 p5 p6 → xW G M [some (.ref (xa G 81)), some (.int p1), some (.int p2), some (.int p3), some (.int p4), some (.int p5), some (.int p6), none, none, none] [] 41) : ∀ (M : xMem) (p1 : Int32) (p2 : Int32) (p3 : Int32) (p6 : Int32) (p7 : Int32), b_X9_saw_187 post r41 M p1 p2 p3 p6 p7 → xW G M [some (.ref (xa G 81)), some (.int p1), some (.int p2), some (.int p3), none, none, some (.int p6), some (.int p7), none, none] [] 187 := by
  intro M p1 p2 p3 p6 p7 h
  unfold b_X9_saw_187 at h
  refine x_iload hG dX9_saw_187 rfl ?_
  refine x_istore hG dX9_saw_189 (Nat.le_of_ble_eq_true rfl) rfl ?_
  refine x_iload hG dX9_saw_191 rfl ?_
  refine x_istore hG dX9_saw_193 (Nat.le_of_ble_eq_true rfl) rfl ?_
  refine x_keep [true, true, true, true, true, true, true, false, false, false] rfl ?_
  exact k_X9_saw_195 hG hQ hr41 _ _ _ _ _ _ _ h
set_option maxRecDepth 100000 in
set_option maxHeartbeats 4000000 in
theorem k_X9_saw_164 {G : xG} {post : Int32 → xMem → Prop} (hG : xOk G cX9_saw RX9 wsX9_saw rm_X9_saw) (hQ : xRetI G post .int) {r41 : xMem → Int32 → Int32 → Int32 → Int32 → Int32 → Int32 → Prop} (hr41 : ∀ (M : xMem) (p1 : Int32) (p2 : Int32) (p3 : Int32) (p4 : Int32) (p5 : Int32) (p6 : Int32), r41 M p1 p2 p3 p4 p5 p6 → xW G M [some (.ref (xa G 81)), some (.int p1), some (.int p2), some (.int p3), some (.int p4), some (.int p5), some (.int p6), none, none, none] [] 41) {r70 : xMem → Int32 → Int32 → Int32 → Int32 → Int32 → Int32 → Int32 → Int32 → Prop} (hr70 : ∀ (M : xMem) (p1 : Int32) (p2 : Int32) (p3 : Int32) (p4 : Int32) (p5 : Int32) (p6 : Int32) (p7 : Int32) (p8 : Int32), r70 M p1 p2 p3 p4 p5 p6 p7 p8 → xW G M [some (.ref (xa G 81)), some (.int p1), some (.int p2), some (.int p3), some (.int p4), some (.int p5), some (.int p6), some (.int p7), some (.int p8), none] [] 70) : ∀ (M : xMem) (p1 : Int32) (p2 : Int32) (p3 : Int32) (p4 : Int32) (p5 : Int32) (p6 : Int32) (p8 : Int32) (s0 : Int32) (s1 : Int32), b_X9_saw_164 post r41 r70 M p1 p2 p3 p4 p5 p6 p8 s0 s1 → xW G M [some (.ref (xa G 81)), some (.int p1), some (.int p2), some (.int p3), some (.int p4), some (.int p5), some (.int p6), none, some (.int p8), none] [.int s1, .int s0] 164 := by
  intro M p1 p2 p3 p4 p5 p6 p8 s0 s1 h
  unfold b_X9_saw_164 at h
  refine x_iadd hG dX9_saw_164 ?_
  refine x_istore hG dX9_saw_165 (Nat.le_of_ble_eq_true rfl) rfl ?_
  refine x_iinc (v := _) hG dX9_saw_167 rfl (x_iincE (k := 1) (by decide)) (Nat.le_of_ble_eq_true rfl) rfl ?_
  refine x_goto (tgt := 70) hG dX9_saw_170 (by decide) ?_
  refine x_keep [true, true, true, true, true, true, true, true, true, false] rfl ?_
  exact hr70 _ _ _ _ _ _ _ _ _ h
set_option maxRecDepth 100000 in
set_option maxHeartbeats 4000000 in
theorem k_X9_saw_140 {G : xG} {post : Int32 → xMem → Prop} (hG : xOk G cX9_saw RX9 wsX9_saw rm_X9_saw) (hQ : xRetI G post .int) {r41 : xMem → Int32 → Int32 → Int32 → Int32 → Int32 → Int32 → Prop} (hr41 : ∀ (M : xMem) (p1 : Int32) (p2 : Int32) (p3 : Int32) (p4 : Int32) (p5 : Int32) (p6 : Int32), r41 M p1 p2 p3 p4 p5 p6 → xW G M [some (.ref (xa G 81)), some (.int p1), some (.int p2), some (.int p3), some (.int p4), some (.int p5), some (.int p6), none, none, none] [] 41) {r70 : xMem → Int32 → Int32 → Int32 → Int32 → Int32 → Int32 → Int32 → Int32 → Prop} (hr70 : ∀ (M : xMem) (p1 : Int32) (p2 : Int32) (p3 : Int32) (p4 : Int32) (p5 : Int32) (p6 : Int32) (p7 : Int32) (p8 : Int32), r70 M p1 p2 p3 p4 p5 p6 p7 p8 → xW G M [some (.ref (xa G 81)), some (.int p1), some (.int p2), some (.int p3), some (.int p4), some (.int p5), some (.int p6), some (.int p7), some (.int p8), none] [] 70) : ∀ (M : xMem) (p1 : Int32) (p2 : Int32) (p3 : Int32) (p4 : Int32) (p5 : Int32) (p6 : Int32) (p7 : Int32) (p8 : Int32) (s0 : Int32), b_X9_saw_140 post r41 r70 M p1 p2 p3 p4 p5 p6 p7 p8 s0 → xW G M [some (.ref (xa G 81)), some (.int p1), some (.int p2), some (.int p3), some (.int p4), some (.int p5), some (.int p6), some (.int p7), some (.int p8), none] [.int s0] 140 := by
  intro M p1 p2 p3 p4 p5 p6 p7 p8 s0 h
  unfold b_X9_saw_140 at h
  refine x_istore hG dX9_saw_140 (Nat.le_of_ble_eq_true rfl) rfl ?_
  refine x_iload hG dX9_saw_142 rfl ?_
  refine x_iload hG dX9_saw_144 rfl ?_
  refine x_if_eq (tgt := 163) hG dX9_saw_146 (by decide) (fun hc1 => ?_) (fun hc1 => ?_)
  · have h := h.1 hc1
    refine x_iconst (v := (0 : Int32)) hG dX9_saw_163 (by decide) ?_
    refine x_keep [true, true, true, true, true, true, true, false, true, false] rfl ?_
    exact k_X9_saw_164 hG hQ hr41 hr70 _ _ _ _ _ _ _ _ _ _ h
  · have h := h.2 hc1
    refine x_aload_n hG dX9_saw_149 rfl rfl ?_
    refine x_get_9_19 hG dX9_saw_150 (rfl : kd 81 = 9) hin_X9_saw_X9 (List.mem_of_getElem? (i := 5) rfl) ?_
    refine x_iconst (v := (5 : Int32)) hG dX9_saw_153 (by decide) ?_
    refine x_iload hG dX9_saw_154 rfl ?_
    refine x_imul hG dX9_saw_156 ?_
    refine x_iconst (v := (4 : Int32)) hG dX9_saw_157 (by decide) ?_
    refine x_iadd hG dX9_saw_158 ?_
    obtain ⟨hi2, h⟩ := h
    refine x_iaload hG dX9_saw_159 (kf_9_19 (rfl : kd 81 = 9)).1 (x_inE (kf_9_19 (rfl : kd 81 = 9)).2 hi2) ?_
    refine x_goto (tgt := 164) hG dX9_saw_160 (by decide) ?_
    refine x_keep [true, true, true, true, true, true, true, false, true, false] rfl ?_
    exact k_X9_saw_164 hG hQ hr41 hr70 _ _ _ _ _ _ _ _ _ _ h
set_option maxRecDepth 100000 in
set_option maxHeartbeats 4000000 in
theorem k_X9_saw_139 {G : xG} {post : Int32 → xMem → Prop} (hG : xOk G cX9_saw RX9 wsX9_saw rm_X9_saw) (hQ : xRetI G post .int) {r41 : xMem → Int32 → Int32 → Int32 → Int32 → Int32 → Int32 → Prop} (hr41 : ∀ (M : xMem) (p1 : Int32) (p2 : Int32) (p3 : Int32) (p4 : Int32) (p5 : Int32) (p6 : Int32), r41 M p1 p2 p3 p4 p5 p6 → xW G M [some (.ref (xa G 81)), some (.int p1), some (.int p2), some (.int p3), some (.int p4), some (.int p5), some (.int p6), none, none, none] [] 41) {r70 : xMem → Int32 → Int32 → Int32 → Int32 → Int32 → Int32 → Int32 → Int32 → Prop} (hr70 : ∀ (M : xMem) (p1 : Int32) (p2 : Int32) (p3 : Int32) (p4 : Int32) (p5 : Int32) (p6 : Int32) (p7 : Int32) (p8 : Int32), r70 M p1 p2 p3 p4 p5 p6 p7 p8 → xW G M [some (.ref (xa G 81)), some (.int p1), some (.int p2), some (.int p3), some (.int p4), some (.int p5), some (.int p6), some (.int p7), some (.int p8), none] [] 70) : ∀ (M : xMem) (p1 : Int32) (p2 : Int32) (p3 : Int32) (p4 : Int32) (p5 : Int32) (p6 : Int32) (p7 : Int32) (p8 : Int32), b_X9_saw_139 post r41 r70 M p1 p2 p3 p4 p5 p6 p7 p8 → xW G M [some (.ref (xa G 81)), some (.int p1), some (.int p2), some (.int p3), some (.int p4), some (.int p5), some (.int p6), some (.int p7), some (.int p8), none] [] 139 := by
  intro M p1 p2 p3 p4 p5 p6 p7 p8 h
  unfold b_X9_saw_139 at h
  refine x_iconst (v := (0 : Int32)) hG dX9_saw_139 (by decide) ?_
  refine x_keep [true, true, true, true, true, true, true, true, true, false] rfl ?_
  exact k_X9_saw_140 hG hQ hr41 hr70 _ _ _ _ _ _ _ _ _ _ h
set_option maxRecDepth 100000 in
set_option maxHeartbeats 4000000 in
theorem k_X9_saw_70 {G : xG} {post : Int32 → xMem → Prop} (hG : xOk G cX9_saw RX9 wsX9_saw rm_X9_saw) (hQ : xRetI G post .int) {r41 : xMem → Int32 → Int32 → Int32 → Int32 → Int32 → Int32 → Prop} (hr41 : ∀ (M : xMem) (p1 : Int32) (p2 : Int32) (p3 : Int32) (p4 : Int32) (p5 : Int32) (p6 : Int32), r41 M p1 p2 p3 p4 p5 p6 → xW G M [some (.ref (xa G 81)), some (.int p1), some (.int p2), some (.int p3), some (.int p4), some (.int p5), some (.int p6), none, none, none] [] 41) : ∀ (M : xMem) (p1 : Int32) (p2 : Int32) (p3 : Int32) (p4 : Int32) (p5 : Int32) (p6 : Int32) (p7 : Int32) (p8 : Int32), xlp9 (b_X9_saw_70 post r41) M p1 p2 p3 p4 p5 p6 p7 p8 → xW G M [some (.ref (xa G 81)), some (.int p1), some (.int p2), some (.int p3), some (.int p4), some (.int p5), some (.int p6), some (.int p7), some (.int p8), none] [] 70 := by
  refine xlp9_W (W := fun M p1 p2 p3 p4 p5 p6 p7 p8 => xW G M [some (.ref (xa G 81)), some (.int p1), some (.int p2), some (.int p3), some (.int p4), some (.int p5), some (.int p6), some (.int p7), some (.int p8), none] [] 70) (fun r70 hr70 => ?_)
  intro M p1 p2 p3 p4 p5 p6 p7 p8 h
  unfold b_X9_saw_70 at h
  refine x_iload hG dX9_saw_70 rfl ?_
  refine x_aload_n hG dX9_saw_72 rfl rfl ?_
  refine x_get_9_21 hG dX9_saw_73 (rfl : kd 81 = 9) hin_X9_saw_X9 (List.mem_of_getElem? (i := 4) rfl) ?_
  refine x_icmp_ge (tgt := 173) hG dX9_saw_76 (by decide) (fun hc1 => ?_) (fun hc1 => ?_)
  · have h := h.1 hc1
    refine x_iload hG dX9_saw_173 rfl ?_
    refine x_bipush (v := (-9 : Int32)) hG dX9_saw_175 (by decide) ?_
    refine x_icmp_eq (tgt := 187) hG dX9_saw_177 (by decide) (fun hc2 => ?_) (fun hc2 => ?_)
    · have h := h.1 hc2
      refine x_keep [true, true, true, true, false, false, true, true, false, false] rfl ?_
      exact k_X9_saw_187 hG hQ hr41 _ _ _ _ _ _ h
    · have h := h.2 hc2
      refine x_iload hG dX9_saw_180 rfl ?_
      refine x_iload hG dX9_saw_182 rfl ?_
      refine x_icmp_ge (tgt := 195) hG dX9_saw_184 (by decide) (fun hc3 => ?_) (fun hc3 => ?_)
      · have h := h.1 hc3
        refine x_keep [true, true, true, true, true, true, true, false, false, false] rfl ?_
        exact k_X9_saw_195 hG hQ hr41 _ _ _ _ _ _ _ h
      · have h := h.2 hc3
        refine x_keep [true, true, true, true, false, false, true, true, false, false] rfl ?_
        exact k_X9_saw_187 hG hQ hr41 _ _ _ _ _ _ h
  · have h := h.2 hc1
    refine x_aload_n hG dX9_saw_79 rfl rfl ?_
    refine x_iload hG dX9_saw_80 rfl ?_
    refine x_iload_n hG dX9_saw_82 rfl rfl ?_
    refine x_cVI2 hG dX9_saw_83 (fun ha => c_X9_holds ha h) gX9_saw_X9_holds rfl ⟨rfl, rfl⟩ hy_X9_holds ⟨Nat.le_of_ble_eq_true rfl, Nat.le_of_ble_eq_true rfl⟩ (kd_lt (rfl : kd 81 = 9) (by decide)) (fun _ => xc_9 (rfl : kd 81 = 9)) rfl (Nat.le_of_ble_eq_true rfl) (fun z4 M5 h => ?_)
    refine x_if_eq (tgt := 139) hG dX9_saw_86 (by decide) (fun hc6 => ?_) (fun hc6 => ?_)
    · have h := h.1 hc6
      refine x_keep [true, true, true, true, true, true, true, true, true, false] rfl ?_
      exact k_X9_saw_139 hG hQ hr41 hr70 _ _ _ _ _ _ _ _ _ h
    · have h := h.2 hc6
      refine x_aload_n hG dX9_saw_89 rfl rfl ?_
      refine x_get_9_19 hG dX9_saw_90 (rfl : kd 81 = 9) hin_X9_saw_X9 (List.mem_of_getElem? (i := 5) rfl) ?_
      refine x_iconst (v := (5 : Int32)) hG dX9_saw_93 (by decide) ?_
      refine x_iload hG dX9_saw_94 rfl ?_
      refine x_imul hG dX9_saw_96 ?_
      obtain ⟨hi7, h⟩ := h
      refine x_iaload hG dX9_saw_97 (kf_9_19 (rfl : kd 81 = 9)).1 (x_inE (kf_9_19 (rfl : kd 81 = 9)).2 hi7) ?_
      refine x_iload hG dX9_saw_98 rfl ?_
      refine x_icmp_eq (tgt := 139) hG dX9_saw_100 (by decide) (fun hc8 => ?_) (fun hc8 => ?_)
      · have h := h.1 hc8
        refine x_keep [true, true, true, true, true, true, true, true, true, false] rfl ?_
        exact k_X9_saw_139 hG hQ hr41 hr70 _ _ _ _ _ _ _ _ _ h
      · have h := h.2 hc8
        refine x_aload_n hG dX9_saw_103 rfl rfl ?_
        refine x_get_9_24 hG dX9_saw_104 (rfl : kd 81 = 9) hin_X9_saw_X9 (List.mem_of_getElem? (i := 6) rfl) ?_
        refine x_sipush (v := (288 : Int32)) hG dX9_saw_107 (by decide) ?_
        refine x_aload_n hG dX9_saw_110 rfl rfl ?_
        refine x_get_9_19 hG dX9_saw_111 (rfl : kd 81 = 9) hin_X9_saw_X9 (List.mem_of_getElem? (i := 5) rfl) ?_
        refine x_iconst (v := (5 : Int32)) hG dX9_saw_114 (by decide) ?_
        refine x_iload hG dX9_saw_115 rfl ?_
        refine x_imul hG dX9_saw_117 ?_
        refine x_iaload hG dX9_saw_118 (kf_9_19 (rfl : kd 81 = 9)).1 (x_inE (kf_9_19 (rfl : kd 81 = 9)).2 hi7) ?_
        refine x_iadd hG dX9_saw_119 ?_
        obtain ⟨hi9, h⟩ := h
        refine x_iaload hG dX9_saw_120 (kf_9_24 (rfl : kd 81 = 9)).1 (x_inE (kf_9_24 (rfl : kd 81 = 9)).2 hi9) ?_
        refine x_aload_n hG dX9_saw_121 rfl rfl ?_
        refine x_get_9_19 hG dX9_saw_122 (rfl : kd 81 = 9) hin_X9_saw_X9 (List.mem_of_getElem? (i := 5) rfl) ?_
        refine x_iconst (v := (5 : Int32)) hG dX9_saw_125 (by decide) ?_
        refine x_iload hG dX9_saw_126 rfl ?_
        refine x_imul hG dX9_saw_128 ?_
        refine x_iconst (v := (3 : Int32)) hG dX9_saw_129 (by decide) ?_
        refine x_iadd hG dX9_saw_130 ?_
        obtain ⟨hi10, h⟩ := h
        refine x_iaload hG dX9_saw_131 (kf_9_19 (rfl : kd 81 = 9)).1 (x_inE (kf_9_19 (rfl : kd 81 = 9)).2 hi10) ?_
        refine x_icmp_le (tgt := 139) hG dX9_saw_132 (by decide) (fun hc11 => ?_) (fun hc11 => ?_)
        · have h := h.1 hc11
          refine x_keep [true, true, true, true, true, true, true, true, true, false] rfl ?_
          exact k_X9_saw_139 hG hQ hr41 hr70 _ _ _ _ _ _ _ _ _ h
        · have h := h.2 hc11
          refine x_iconst (v := (1 : Int32)) hG dX9_saw_135 (by decide) ?_
          refine x_goto (tgt := 140) hG dX9_saw_136 (by decide) ?_
          refine x_keep [true, true, true, true, true, true, true, true, true, false] rfl ?_
          exact k_X9_saw_140 hG hQ hr41 hr70 _ _ _ _ _ _ _ _ _ _ h
set_option maxRecDepth 100000 in
set_option maxHeartbeats 4000000 in
theorem k_X9_saw_41 {G : xG} {post : Int32 → xMem → Prop} (hG : xOk G cX9_saw RX9 wsX9_saw rm_X9_saw) (hQ : xRetI G post .int) : ∀ (M : xMem) (p1 : Int32) (p2 : Int32) (p3 : Int32) (p4 : Int32) (p5 : Int32) (p6 : Int32), xlp7 (b_X9_saw_41 post) M p1 p2 p3 p4 p5 p6 → xW G M [some (.ref (xa G 81)), some (.int p1), some (.int p2), some (.int p3), some (.int p4), some (.int p5), some (.int p6), none, none, none] [] 41 := by
  refine xlp7_W (W := fun M p1 p2 p3 p4 p5 p6 => xW G M [some (.ref (xa G 81)), some (.int p1), some (.int p2), some (.int p3), some (.int p4), some (.int p5), some (.int p6), none, none, none] [] 41) (fun r41 hr41 => ?_)
  intro M p1 p2 p3 p4 p5 p6 h
  unfold b_X9_saw_41 at h
  refine x_iload hG dX9_saw_41 rfl ?_
  refine x_aload_n hG dX9_saw_43 rfl rfl ?_
  refine x_get_9_9 hG dX9_saw_44 (rfl : kd 81 = 9) hin_X9_saw_X9 (List.mem_of_getElem? (i := 2) rfl) ?_
  refine x_aload_n hG dX9_saw_47 rfl rfl ?_
  refine x_get_9_10 hG dX9_saw_48 (rfl : kd 81 = 9) hin_X9_saw_X9 (List.mem_of_getElem? (i := 3) rfl) ?_
  refine x_imul hG dX9_saw_51 ?_
  refine x_icmp_ge (tgt := 201) hG dX9_saw_52 (by decide) (fun hc1 => ?_) (fun hc1 => ?_)
  · have h := h.1 hc1
    refine x_iload_n hG dX9_saw_201 rfl rfl ?_
    refine x_if_ne (tgt := 210) hG dX9_saw_202 (by decide) (fun hc2 => ?_) (fun hc2 => ?_)
    · have h := h.1 hc2
      refine x_iload hG dX9_saw_210 rfl ?_
      exact x_iret hG hQ dX9_saw_212 rfl h
    · have h := h.2 hc2
      refine x_iload hG dX9_saw_205 rfl ?_
      refine x_goto (tgt := 212) hG dX9_saw_207 (by decide) ?_
      exact x_iret hG hQ dX9_saw_212 rfl h
  · have h := h.2 hc1
    refine x_aload_n hG dX9_saw_55 rfl rfl ?_
    refine x_bipush (v := (6 : Int32)) hG dX9_saw_56 (by decide) ?_
    refine x_iload hG dX9_saw_58 rfl ?_
    refine x_iload_n hG dX9_saw_60 rfl rfl ?_
    refine x_cVV3 hG dX9_saw_61 (fun ha => c_X9_spreads ha h) gX9_saw_X9_spreads rfl ⟨rfl, rfl⟩ hy_X9_spreads ⟨Nat.le_of_ble_eq_true rfl, Nat.le_of_ble_eq_true rfl⟩ (kd_lt (rfl : kd 81 = 9) (by decide)) (fun _ => xc_9 (rfl : kd 81 = 9)) rfl (Nat.le_of_ble_eq_true rfl) (fun M4 h => ?_)
    refine x_iconst (v := (0 : Int32)) hG dX9_saw_64 (by decide) ?_
    refine x_istore hG dX9_saw_65 (Nat.le_of_ble_eq_true rfl) rfl ?_
    refine x_iconst (v := (0 : Int32)) hG dX9_saw_67 (by decide) ?_
    refine x_istore hG dX9_saw_68 (Nat.le_of_ble_eq_true rfl) rfl ?_
    refine x_keep [true, true, true, true, true, true, true, true, true, false] rfl ?_
    exact k_X9_saw_70 hG hQ hr41 _ _ _ _ _ _ _ _ _ h
set_option maxRecDepth 100000 in
set_option maxHeartbeats 4000000 in
theorem c_X9_saw {l : Launch} {a : Nat → Nat} {M : xMem} {p1 : Int32} {p2 : Int32} {p3 : Int32} {post : Int32 → xMem → Prop} (ha : xInj a) (h : w_X9_saw M p1 p2 p3 post) : ∀ D cs sz, xMetI l yX9_saw wsX9_saw rm_X9_saw D a cs sz M [.ref (a 81), .int p1, .int p2, .int p3] post := by
  intro D cs sz
  unfold w_X9_saw at h
  refine x_metI (ty := .int) [some (.ref (a 81)), some (.int p1), some (.int p2), some (.int p3), none, none, none, none, none, none] (by decide) rfl rfl (Nat.le_of_ble_eq_true rfl) rfl rfl ha D cs sz rfl (fun G e1 e2 hG hQ => ?_)
  subst e1
  subst e2
  refine x_aload_n hG dX9_saw_0 rfl rfl ?_
  refine x_iconst (v := (0 : Int32)) hG dX9_saw_1 (by decide) ?_
  have h := h _ rfl
  refine x_put_9_0 hG dX9_saw_2 (rfl : kd 81 = 9) hin_X9_saw_X9 (List.mem_of_getElem? (i := 1) rfl) ?_
  refine x_iload_n hG dX9_saw_5 rfl rfl ?_
  refine x_iconst (v := (1 : Int32)) hG dX9_saw_6 (by decide) ?_
  refine x_bipush (v := (99 : Int32)) hG dX9_saw_7 (by decide) ?_
  refine x_cSI3 hG dX9_saw_9 (fun ha => c_X9_in ha h) gX9_saw_X9_in rfl ⟨rfl, rfl⟩ hy_X9_in ⟨Nat.le_of_ble_eq_true rfl, Nat.le_of_ble_eq_true rfl⟩ (Nat.le_of_ble_eq_true rfl) (fun z2 M3 h => ?_)
  refine x_if_eq (tgt := 29) hG dX9_saw_12 (by decide) (fun hc4 => ?_) (fun hc4 => ?_)
  · have h := h.1 hc4
    refine x_iconst (v := (-1 : Int32)) hG dX9_saw_29 (by decide) ?_
    exact x_iret hG hQ dX9_saw_30 rfl h
  · have h := h.2 hc4
    refine x_iload_n hG dX9_saw_15 rfl rfl ?_
    refine x_cSI1 hG dX9_saw_16 (fun ha => c_X9_isHour ha h) gX9_saw_X9_isHour rfl ⟨rfl, rfl⟩ hy_X9_isHour ⟨Nat.le_of_ble_eq_true rfl, Nat.le_of_ble_eq_true rfl⟩ (Nat.le_of_ble_eq_true rfl) (fun z5 M6 h => ?_)
    refine x_if_eq (tgt := 29) hG dX9_saw_19 (by decide) (fun hc7 => ?_) (fun hc7 => ?_)
    · have h := h.1 hc7
      refine x_iconst (v := (-1 : Int32)) hG dX9_saw_29 (by decide) ?_
      exact x_iret hG hQ dX9_saw_30 rfl h
    · have h := h.2 hc7
      refine x_iload_n hG dX9_saw_22 rfl rfl ?_
      refine x_cSI1 hG dX9_saw_23 (fun ha => c_X9_isBit ha h) gX9_saw_X9_isBit rfl ⟨rfl, rfl⟩ hy_X9_isBit ⟨Nat.le_of_ble_eq_true rfl, Nat.le_of_ble_eq_true rfl⟩ (Nat.le_of_ble_eq_true rfl) (fun z8 M9 h => ?_)
      refine x_if_ne (tgt := 31) hG dX9_saw_26 (by decide) (fun hc10 => ?_) (fun hc10 => ?_)
      · have h := h.1 hc10
        refine x_bipush (v := (-9 : Int32)) hG dX9_saw_31 (by decide) ?_
        refine x_istore hG dX9_saw_33 (Nat.le_of_ble_eq_true rfl) rfl ?_
        refine x_iconst (v := (0 : Int32)) hG dX9_saw_35 (by decide) ?_
        refine x_istore hG dX9_saw_36 (Nat.le_of_ble_eq_true rfl) rfl ?_
        refine x_iconst (v := (0 : Int32)) hG dX9_saw_38 (by decide) ?_
        refine x_istore hG dX9_saw_39 (Nat.le_of_ble_eq_true rfl) rfl ?_
        refine x_keep [true, true, true, true, true, true, true, false, false, false] rfl ?_
        exact k_X9_saw_41 hG hQ _ _ _ _ _ _ _ h
      · have h := h.2 hc10
        refine x_iconst (v := (-1 : Int32)) hG dX9_saw_29 (by decide) ?_
        exact x_iret hG hQ dX9_saw_30 rfl h
