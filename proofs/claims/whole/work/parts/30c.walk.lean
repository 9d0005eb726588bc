abbrev rm_X8_isHour : Room := { frames := 0, cells := 0, slots := 0, locals := 0 }
theorem hy_X8_isHour : yX8_isHour.cls ≠ "java/lang/invoke/MethodHandle" ∧ yX8_isHour.cls ≠ "java/lang/invoke/VarHandle" ∧ (parseMethodDescriptor yX8_isHour.desc).map (fun d => d.parameters.length) = some 1 := by decide +kernel
set_option maxRecDepth 100000 in
set_option maxHeartbeats 4000000 in
theorem c_X8_isHour {l : Launch} {a : Nat → Nat} {M : xMem} {p0 : Int32} {post : Int32 → xMem → Prop} (ha : xInj a) (h : w_X8_isHour M p0 post) : ∀ D cs sz, xMetI l yX8_isHour wsX8_isHour rm_X8_isHour D a cs sz M [.int p0] post := by
  intro D cs sz
  unfold w_X8_isHour at h
  refine x_metI (ty := .boolean) [some (.int p0)] (by decide) rfl rfl (Nat.le_of_ble_eq_true rfl) rfl rfl ha D cs sz rfl (fun G e1 e2 hG hQ => ?_)
  subst e1
  subst e2
  refine x_iload_n hG dX8_isHour_0 rfl rfl ?_
  refine x_if_lt (tgt := 14) hG dX8_isHour_1 (by decide) (fun hc1 => ?_) (fun hc1 => ?_)
  · have h := h.1 hc1
    refine x_iconst (v := (0 : Int32)) hG dX8_isHour_14 (by decide) ?_
    exact x_iret hG hQ dX8_isHour_15 rfl h
  · have h := h.2 hc1
    refine x_iload_n hG dX8_isHour_4 rfl rfl ?_
    refine x_bipush (v := (12 : Int32)) hG dX8_isHour_5 (by decide) ?_
    refine x_icmp_ge (tgt := 14) hG dX8_isHour_7 (by decide) (fun hc2 => ?_) (fun hc2 => ?_)
    · have h := h.1 hc2
      refine x_iconst (v := (0 : Int32)) hG dX8_isHour_14 (by decide) ?_
      exact x_iret hG hQ dX8_isHour_15 rfl h
    · have h := h.2 hc2
      refine x_iconst (v := (1 : Int32)) hG dX8_isHour_10 (by decide) ?_
      refine x_goto (tgt := 15) hG dX8_isHour_11 (by decide) ?_
      exact x_iret hG hQ dX8_isHour_15 rfl h
abbrev rm_X8_broken : Room := { frames := 1, cells := 0, slots := 0, locals := 20 }
theorem hy_X8_broken : yX8_broken.cls = RX8 ∧ yX8_broken.cls ≠ "java/lang/invoke/MethodHandle" ∧ yX8_broken.cls ≠ "java/lang/invoke/VarHandle" ∧ (parseMethodDescriptor yX8_broken.desc).map (fun d => d.parameters.length) = some 2 := by decide +kernel
theorem hin_X8_broken_X2 : ∀ w ∈ wsX20, w ∈ wsX8_broken := fun _ h => List.mem_cons_of_mem _ (List.mem_append_right _ h)
theorem hin_X8_broken_X4 : ∀ w ∈ wsX40, w ∈ wsX8_broken := fun _ h => List.mem_cons_of_mem _ (List.mem_append_left _ (List.mem_append_right _ h))
theorem hin_X8_broken_X8 : ∀ w ∈ wsX80, w ∈ wsX8_broken := fun _ h => List.mem_cons_of_mem _ (List.mem_append_left _ (List.mem_append_left _ (List.mem_append_right _ h)))
set_option maxRecDepth 100000 in
set_option maxHeartbeats 4000000 in
theorem c_X8_broken {l : Launch} {a : Nat → Nat} {M : xMem} {p1 : Int32} {p2 : Int32} {post : Int32 → xMem → Prop} (ha : xInj a) (h : w_X8_broken M p1 p2 post) : ∀ D cs sz, xMetI l yX8_broken wsX8_broken rm_X8_broken D a cs sz M [.ref (a 0), .int p1, .int p2] post := by
  intro D cs sz
  unfold w_X8_broken at h
  refine x_metI (ty := .int) [some (.ref (a 0)), some (.int p1), some (.int p2)] (by decide) rfl rfl (Nat.le_of_ble_eq_true rfl) rfl rfl ha D cs sz rfl (fun G e1 e2 hG hQ => ?_)
  subst e1
  subst e2
  refine x_iload_n hG dX8_broken_0 rfl rfl ?_
  refine x_cSI1 hG dX8_broken_1 (fun ha => c_X8_isHour ha h) gX8_broken_X8_isHour rfl ⟨rfl, rfl⟩ hy_X8_isHour ⟨Nat.le_of_ble_eq_true rfl, Nat.le_of_ble_eq_true rfl⟩ (Nat.le_of_ble_eq_true rfl) (fun z1 M2 h => ?_)
  refine x_if_ne (tgt := 9) hG dX8_broken_4 (by decide) (fun hc3 => ?_) (fun hc3 => ?_)
  · have h := h.1 hc3
    refine x_aload_n hG dX8_broken_9 rfl rfl ?_
    refine x_get_8_2 hG dX8_broken_10 (rfl : kd 0 = 8) hin_X8_broken_X8 (List.mem_of_getElem? (i := 1) rfl) ?_
    refine x_get_4_0 hG dX8_broken_13 (kf_8_2 (rfl : kd 0 = 8)).1 hin_X8_broken_X4 (List.mem_of_getElem? (i := 2) rfl) ?_
    refine x_iload_n hG dX8_broken_16 rfl rfl ?_
    refine x_aload_n hG dX8_broken_17 rfl rfl ?_
    refine x_get_8_5 hG dX8_broken_18 (rfl : kd 0 = 8) hin_X8_broken_X8 (List.mem_of_getElem? (i := 3) rfl) ?_
    have hk4 : kd ((M2.1 0 5).toNatClampNeg) = 2 := And.left h
    refine x_cVI0 hG dX8_broken_21 (fun ha => c_X2_allWorkers ha h) gX8_broken_X2_allWorkers rfl ⟨rfl, rfl⟩ hy_X2_allWorkers ⟨Nat.le_of_ble_eq_true rfl, Nat.le_of_ble_eq_true rfl⟩ (kd_lt hk4 (by decide)) (fun _ => xc_2 hk4) rfl (Nat.le_of_ble_eq_true rfl) (fun z5 M6 h => ?_)
    refine x_iand hG dX8_broken_24 ?_
    obtain ⟨hi7, h⟩ := h
    refine x_iaload hG dX8_broken_25 (kf_4_0 (kf_8_2 (rfl : kd 0 = 8)).1).1 (x_inE (kf_4_0 (kf_8_2 (rfl : kd 0 = 8)).1).2 hi7) ?_
    refine x_aload_n hG dX8_broken_26 rfl rfl ?_
    refine x_get_8_5 hG dX8_broken_27 (rfl : kd 0 = 8) hin_X8_broken_X8 (List.mem_of_getElem? (i := 3) rfl) ?_
    obtain ⟨hk8, h⟩ := h
    refine x_get_2_7 hG dX8_broken_30 hk8 hin_X8_broken_X2 (List.mem_of_getElem? (i := 4) rfl) ?_
    refine x_iload_n hG dX8_broken_33 rfl rfl ?_
    obtain ⟨hi9, h⟩ := h
    refine x_iaload hG dX8_broken_34 (kf_2_7 hk8).1 (x_inE (kf_2_7 hk8).2 hi9) ?_
    refine x_iand hG dX8_broken_35 ?_
    exact x_iret hG hQ dX8_broken_36 rfl h
  · have h := h.2 hc3
    refine x_iconst (v := (-1 : Int32)) hG dX8_broken_7 (by decide) ?_
    exact x_iret hG hQ dX8_broken_8 rfl h
abbrev rm_X8_plan : Room := { frames := 2, cells := 0, slots := 0, locals := 46 }
theorem hy_X8_plan : yX8_plan.cls = RX8 ∧ yX8_plan.cls ≠ "java/lang/invoke/MethodHandle" ∧ yX8_plan.cls ≠ "java/lang/invoke/VarHandle" ∧ (parseMethodDescriptor yX8_plan.desc).map (fun d => d.parameters.length) = some 3 := by decide +kernel
theorem hin_X8_plan_X4 : ∀ w ∈ wsX40, w ∈ wsX8_plan := fun _ h => List.mem_cons_of_mem _ (List.mem_append_left _ (List.mem_append_right _ h))
theorem hin_X8_plan_X8 : ∀ w ∈ wsX80, w ∈ wsX8_plan := fun _ h => List.mem_cons_of_mem _ (List.mem_append_left _ (List.mem_append_left _ (List.mem_append_right _ h)))
set_option maxRecDepth 100000 in
set_option maxHeartbeats 4000000 in
theorem c_X8_plan {l : Launch} {a : Nat → Nat} {M : xMem} {p1 : Int32} {p2 : Int32} {p3 : Int32} {post : Int32 → xMem → Prop} (ha : xInj a) (h : w_X8_plan M p1 p2 p3 post) : ∀ D cs sz, xMetI l yX8_plan wsX8_plan rm_X8_plan D a cs sz M [.ref (a 0), .int p1, .int p2, .int p3] post := by
  intro D cs sz
  unfold w_X8_plan at h
  refine x_metI (ty := .int) [some (.ref (a 0)), some (.int p1), some (.int p2), some (.int p3)] (by decide) rfl rfl (Nat.le_of_ble_eq_true rfl) rfl rfl ha D cs sz rfl (fun G e1 e2 hG hQ => ?_)
  subst e1
  subst e2
  refine x_iload_n hG dX8_plan_0 rfl rfl ?_
  refine x_cSI1 hG dX8_plan_1 (fun ha => c_X8_isHour ha h) gX8_plan_X8_isHour rfl ⟨rfl, rfl⟩ hy_X8_isHour ⟨Nat.le_of_ble_eq_true rfl, Nat.le_of_ble_eq_true rfl⟩ (Nat.le_of_ble_eq_true rfl) (fun z1 M2 h => ?_)
  refine x_if_eq (tgt := 21) hG dX8_plan_4 (by decide) (fun hc3 => ?_) (fun hc3 => ?_)
  · have h := h.1 hc3
    refine x_iconst (v := (-1 : Int32)) hG dX8_plan_21 (by decide) ?_
    exact x_iret hG hQ dX8_plan_22 rfl h
  · have h := h.2 hc3
    refine x_iload_n hG dX8_plan_7 rfl rfl ?_
    refine x_cSI1 hG dX8_plan_8 (fun ha => c_X8_isBit ha h) gX8_plan_X8_isBit rfl ⟨rfl, rfl⟩ hy_X8_isBit ⟨Nat.le_of_ble_eq_true rfl, Nat.le_of_ble_eq_true rfl⟩ (Nat.le_of_ble_eq_true rfl) (fun z4 M5 h => ?_)
    refine x_if_eq (tgt := 21) hG dX8_plan_11 (by decide) (fun hc6 => ?_) (fun hc6 => ?_)
    · have h := h.1 hc6
      refine x_iconst (v := (-1 : Int32)) hG dX8_plan_21 (by decide) ?_
      exact x_iret hG hQ dX8_plan_22 rfl h
    · have h := h.2 hc6
      refine x_iload_n hG dX8_plan_14 rfl rfl ?_
      refine x_cSI1 hG dX8_plan_15 (fun ha => c_X8_isBit ha h) gX8_plan_X8_isBit rfl ⟨rfl, rfl⟩ hy_X8_isBit ⟨Nat.le_of_ble_eq_true rfl, Nat.le_of_ble_eq_true rfl⟩ (Nat.le_of_ble_eq_true rfl) (fun z7 M8 h => ?_)
      refine x_if_ne (tgt := 23) hG dX8_plan_18 (by decide) (fun hc9 => ?_) (fun hc9 => ?_)
      · have h := h.1 hc9
        refine x_aload_n hG dX8_plan_23 rfl rfl ?_
        refine x_get_8_2 hG dX8_plan_24 (rfl : kd 0 = 8) hin_X8_plan_X8 (List.mem_of_getElem? (i := 1) rfl) ?_
        refine x_aload_n hG dX8_plan_27 rfl rfl ?_
        refine x_get_8_5 hG dX8_plan_28 (rfl : kd 0 = 8) hin_X8_plan_X8 (List.mem_of_getElem? (i := 2) rfl) ?_
        refine x_iload_n hG dX8_plan_31 rfl rfl ?_
        refine x_iload_n hG dX8_plan_32 rfl rfl ?_
        refine x_cVV3 hG dX8_plan_33 (fun ha => c_X4_choose ha h) gX8_plan_X4_choose rfl ⟨rfl, rfl⟩ hy_X4_choose ⟨Nat.le_of_ble_eq_true rfl, Nat.le_of_ble_eq_true rfl⟩ (kd_lt (rfl : kd 14 = 4) (by decide)) (fun _ => xc_4 (rfl : kd 14 = 4)) rfl (Nat.le_of_ble_eq_true rfl) (fun M11 h => ?_)
        refine x_iload_n hG dX8_plan_36 rfl rfl ?_
        refine x_if_ne (tgt := 50) hG dX8_plan_37 (by decide) (fun hc12 => ?_) (fun hc12 => ?_)
        · have h := h.1 hc12
          refine x_aload_n hG dX8_plan_50 rfl rfl ?_
          refine x_get_8_2 hG dX8_plan_51 (rfl : kd 0 = 8) hin_X8_plan_X8 (List.mem_of_getElem? (i := 1) rfl) ?_
          refine x_get_4_3 hG dX8_plan_54 (kf_8_2 (rfl : kd 0 = 8)).1 hin_X8_plan_X4 (List.mem_of_getElem? (i := 4) rfl) ?_
          exact x_iret hG hQ dX8_plan_57 rfl h
        · have h := h.2 hc12
          refine x_aload_n hG dX8_plan_40 rfl rfl ?_
          refine x_get_8_2 hG dX8_plan_41 (rfl : kd 0 = 8) hin_X8_plan_X8 (List.mem_of_getElem? (i := 1) rfl) ?_
          refine x_get_4_2 hG dX8_plan_44 (kf_8_2 (rfl : kd 0 = 8)).1 hin_X8_plan_X4 (List.mem_of_getElem? (i := 3) rfl) ?_
          refine x_goto (tgt := 57) hG dX8_plan_47 (by decide) ?_
          exact x_iret hG hQ dX8_plan_57 rfl h
      · have h := h.2 hc9
        refine x_iconst (v := (-1 : Int32)) hG dX8_plan_21 (by decide) ?_
        exact x_iret hG hQ dX8_plan_22 rfl h
abbrev rm_X8_day : Room := { frames := 3, cells := 0, slots := 0, locals := 70 }
theorem hy_X8_day : yX8_day.cls = RX8 ∧ yX8_day.cls ≠ "java/lang/invoke/MethodHandle" ∧ yX8_day.cls ≠ "java/lang/invoke/VarHandle" ∧ (parseMethodDescriptor yX8_day.desc).map (fun d => d.parameters.length) = some 1 := by decide +kernel
theorem hin_X8_day_X8 : ∀ w ∈ wsX80, w ∈ wsX8_day := fun _ h => List.mem_cons_of_mem _ (List.mem_append_left _ (List.mem_append_left _ (List.mem_append_right _ h)))
set_option maxRecDepth 100000 in
set_option maxHeartbeats 4000000 in
theorem c_X8_day {l : Launch} {a : Nat → Nat} {M : xMem} {p1 : Int32} {post : Int32 → xMem → Prop} (ha : xInj a) (h : w_X8_day M p1 post) : ∀ D cs sz, xMetI l yX8_day wsX8_day rm_X8_day D a cs sz M [.ref (a 0), .int p1] post := by
  intro D cs sz
  unfold w_X8_day at h
  refine x_metI (ty := .int) [some (.ref (a 0)), some (.int p1)] (by decide) rfl rfl (Nat.le_of_ble_eq_true rfl) rfl rfl ha D cs sz rfl (fun G e1 e2 hG hQ => ?_)
  subst e1
  subst e2
  refine x_iload_n hG dX8_day_0 rfl rfl ?_
  refine x_cSI1 hG dX8_day_1 (fun ha => c_X8_isBit ha h) gX8_day_X8_isBit rfl ⟨rfl, rfl⟩ hy_X8_isBit ⟨Nat.le_of_ble_eq_true rfl, Nat.le_of_ble_eq_true rfl⟩ (Nat.le_of_ble_eq_true rfl) (fun z1 M2 h => ?_)
  refine x_if_ne (tgt := 9) hG dX8_day_4 (by decide) (fun hc3 => ?_) (fun hc3 => ?_)
  · have h := h.1 hc3
    refine x_aload_n hG dX8_day_9 rfl rfl ?_
    refine x_get_8_2 hG dX8_day_10 (rfl : kd 0 = 8) hin_X8_day_X8 (List.mem_of_getElem? (i := 1) rfl) ?_
    refine x_aload_n hG dX8_day_13 rfl rfl ?_
    refine x_get_8_5 hG dX8_day_14 (rfl : kd 0 = 8) hin_X8_day_X8 (List.mem_of_getElem? (i := 2) rfl) ?_
    refine x_iload_n hG dX8_day_17 rfl rfl ?_
    refine x_cVI2 hG dX8_day_18 (fun ha => c_X4_wholeDay ha h) gX8_day_X4_wholeDay rfl ⟨rfl, rfl⟩ hy_X4_wholeDay ⟨Nat.le_of_ble_eq_true rfl, Nat.le_of_ble_eq_true rfl⟩ (kd_lt (rfl : kd 14 = 4) (by decide)) (fun _ => xc_4 (rfl : kd 14 = 4)) rfl (Nat.le_of_ble_eq_true rfl) (fun z4 M5 h => ?_)
    exact x_iret hG hQ dX8_day_21 rfl h
  · have h := h.2 hc3
    refine x_iconst (v := (-1 : Int32)) hG dX8_day_7 (by decide) ?_
    exact x_iret hG hQ dX8_day_8 rfl h
abbrev rm_X8_best : Room := { frames := 6, cells := 0, slots := 0, locals := 140 }
theorem hy_X8_best : yX8_best.cls = RX8 ∧ yX8_best.cls ≠ "java/lang/invoke/MethodHandle" ∧ yX8_best.cls ≠ "java/lang/invoke/VarHandle" ∧ (parseMethodDescriptor yX8_best.desc).map (fun d => d.parameters.length) = some 3 := by decide +kernel
theorem hin_X8_best_X2 : ∀ w ∈ wsX20, w ∈ wsX8_best := fun _ h => List.mem_cons_of_mem _ (List.mem_append_left _ (List.mem_append_left _ (List.mem_append_left _ (List.mem_append_right _ h))))
theorem hin_X8_best_X8 : ∀ w ∈ wsX80, w ∈ wsX8_best := fun _ h => List.mem_cons_of_mem _ (List.mem_append_left _ (List.mem_append_left _ (List.mem_append_left _ (List.mem_append_left _ (List.mem_append_right _ h)))))
set_option maxRecDepth 100000 in
set_option maxHeartbeats 4000000 in
theorem k_X8_best_175 {G : xG} {post : Int32 → xMem → Prop} (hG : xOk G cX8_best RX8 wsX8_best rm_X8_best) (hQ : xRetI G post .int) : ∀ (M : xMem) (p6 : Int32), b_X8_best_175 post M p6 → xW G M [none, none, none, none, none, none, some (.int p6), none, none, none] [] 175 := by
  intro M p6 h
  unfold b_X8_best_175 at h
  refine x_iload hG dX8_best_175 rfl ?_
  refine x_goto (tgt := 182) hG dX8_best_177 (by decide) ?_
  exact x_iret hG hQ dX8_best_182 rfl h
set_option maxRecDepth 100000 in
set_option maxHeartbeats 4000000 in
theorem k_X8_best_154 {G : xG} {post : Int32 → xMem → Prop} (hG : xOk G cX8_best RX8 wsX8_best rm_X8_best) (hQ : xRetI G post .int) {r57 : xMem → Int32 → Int32 → Int32 → Nat → Int32 → Int32 → Int32 → Prop} (hr57 : ∀ (M : xMem) (p1 : Int32) (p2 : Int32) (p3 : Int32) (p4 : Nat) (p5 : Int32) (p6 : Int32) (p7 : Int32), r57 M p1 p2 p3 p4 p5 p6 p7 → xW G M [some (.ref (xa G 0)), some (.int p1), some (.int p2), some (.int p3), some (.ref (xa G p4)), some (.int p5), some (.int p6), some (.int p7), none, none] [] 57) : ∀ (M : xMem) (p1 : Int32) (p2 : Int32) (p3 : Int32) (p4 : Nat) (p5 : Int32) (p6 : Int32) (p7 : Int32), b_X8_best_154 post r57 M p1 p2 p3 p4 p5 p6 p7 → xW G M [some (.ref (xa G 0)), some (.int p1), some (.int p2), some (.int p3), some (.ref (xa G p4)), some (.int p5), some (.int p6), some (.int p7), none, none] [] 154 := by
  intro M p1 p2 p3 p4 p5 p6 p7 h
  unfold b_X8_best_154 at h
  refine x_iinc (v := _) hG dX8_best_154 rfl (x_iincE (k := 1) (by decide)) (Nat.le_of_ble_eq_true rfl) rfl ?_
  refine x_goto (tgt := 57) hG dX8_best_157 (by decide) ?_
  refine x_keep [true, true, true, true, true, true, true, true, false, false] rfl ?_
  exact hr57 _ _ _ _ _ _ _ _ h
set_option maxRecDepth 100000 in
set_option maxHeartbeats 4000000 in
theorem k_X8_best_57 {G : xG} {post : Int32 → xMem → Prop} (hG : xOk G cX8_best RX8 wsX8_best rm_X8_best) (hQ : xRetI G post .int) : ∀ (M : xMem) (p1 : Int32) (p2 : Int32) (p3 : Int32) (p4 : Nat) (p5 : Int32) (p6 : Int32) (p7 : Int32), xlp8 (b_X8_best_57 post) M p1 p2 p3 p4 p5 p6 p7 → xW G M [some (.ref (xa G 0)), some (.int p1), some (.int p2), some (.int p3), some (.ref (xa G p4)), some (.int p5), some (.int p6), some (.int p7), none, none] [] 57 := by
  refine xlp8_W (W := fun M p1 p2 p3 p4 p5 p6 p7 => xW G M [some (.ref (xa G 0)), some (.int p1), some (.int p2), some (.int p3), some (.ref (xa G p4)), some (.int p5), some (.int p6), some (.int p7), none, none] [] 57) (fun r57 hr57 => ?_)
  intro M p1 p2 p3 p4 p5 p6 p7 h
  unfold b_X8_best_57 at h
  refine x_iload hG dX8_best_57 rfl ?_
  refine x_bipush (v := (96 : Int32)) hG dX8_best_59 (by decide) ?_
  refine x_icmp_ge (tgt := 160) hG dX8_best_61 (by decide) (fun hc1 => ?_) (fun hc1 => ?_)
  · have h := h.1 hc1
    refine x_aload_n hG dX8_best_160 rfl rfl ?_
    refine x_cVV0 hG dX8_best_161 (fun ha => c_X8_listen ha h) gX8_best_X8_listen rfl ⟨rfl, rfl⟩ hy_X8_listen ⟨Nat.le_of_ble_eq_true rfl, Nat.le_of_ble_eq_true rfl⟩ (kd_lt (rfl : kd 0 = 8) (by decide)) (fun _ => xc_8 (rfl : kd 0 = 8)) rfl (Nat.le_of_ble_eq_true rfl) (fun M3 h => ?_)
    refine x_iload hG dX8_best_164 rfl ?_
    refine x_bipush (v := (-9 : Int32)) hG dX8_best_166 (by decide) ?_
    refine x_icmp_eq (tgt := 175) hG dX8_best_168 (by decide) (fun hc4 => ?_) (fun hc4 => ?_)
    · have h := h.1 hc4
      refine x_keep [false, false, false, false, false, false, true, false, false, false] rfl ?_
      exact k_X8_best_175 hG hQ _ _ h
    · have h := h.2 hc4
      refine x_iload_n hG dX8_best_171 rfl rfl ?_
      refine x_if_ne (tgt := 180) hG dX8_best_172 (by decide) (fun hc5 => ?_) (fun hc5 => ?_)
      · have h := h.1 hc5
        refine x_iload hG dX8_best_180 rfl ?_
        exact x_iret hG hQ dX8_best_182 rfl h
      · have h := h.2 hc5
        refine x_keep [false, false, false, false, false, false, true, false, false, false] rfl ?_
        exact k_X8_best_175 hG hQ _ _ h
  · have h := h.2 hc1
    refine x_aload_n hG dX8_best_64 rfl rfl ?_
    refine x_get_8_5 hG dX8_best_65 (rfl : kd 0 = 8) hin_X8_best_X8 (List.mem_of_getElem? (i := 1) rfl) ?_
    refine x_iload hG dX8_best_68 rfl ?_
    have hk6 : kd ((M.1 0 5).toNatClampNeg) = 2 := And.left h
    refine x_cVI1 hG dX8_best_70 (fun ha => c_X2_beyond ha h) gX8_best_X2_beyond rfl ⟨rfl, rfl⟩ hy_X2_beyond ⟨Nat.le_of_ble_eq_true rfl, Nat.le_of_ble_eq_true rfl⟩ (kd_lt hk6 (by decide)) (fun _ => xc_2 hk6) rfl (Nat.le_of_ble_eq_true rfl) (fun z7 M8 h => ?_)
    refine x_istore hG dX8_best_73 (Nat.le_of_ble_eq_true rfl) rfl ?_
    refine x_iload hG dX8_best_75 rfl ?_
    refine x_if_lt (tgt := 154) hG dX8_best_77 (by decide) (fun hc9 => ?_) (fun hc9 => ?_)
    · have h := h.1 hc9
      refine x_keep [true, true, true, true, true, true, true, true, false, false] rfl ?_
      exact k_X8_best_154 hG hQ hr57 _ _ _ _ _ _ _ _ h
    · have h := h.2 hc9
      refine x_aload hG dX8_best_80 rfl ?_
      refine x_iload hG dX8_best_82 rfl ?_
      obtain ⟨hk10, h⟩ := h
      obtain ⟨hi11, h⟩ := h
      refine x_iaload hG dX8_best_84 hk10 hi11 ?_
      refine x_iload_n hG dX8_best_85 rfl rfl ?_
      refine x_cSI1 hG dX8_best_86 (fun ha => c_X8_mostOf ha h) gX8_best_X8_mostOf rfl ⟨rfl, rfl⟩ hy_X8_mostOf ⟨Nat.le_of_ble_eq_true rfl, Nat.le_of_ble_eq_true rfl⟩ (Nat.le_of_ble_eq_true rfl) (fun z12 M13 h => ?_)
      refine x_icmp_lt (tgt := 95) hG dX8_best_89 (by decide) (fun hc14 => ?_) (fun hc14 => ?_)
      · have h := h.1 hc14
        refine x_aload hG dX8_best_95 rfl ?_
        refine x_iload hG dX8_best_97 rfl ?_
        refine x_dup2 hG dX8_best_99 rfl rfl ?_
        refine x_iaload hG dX8_best_100 hk10 hi11 ?_
        refine x_iconst (v := (1 : Int32)) hG dX8_best_101 (by decide) ?_
        refine x_iadd hG dX8_best_102 ?_
        have h := h _ rfl
        refine x_iastore hG dX8_best_103 hk10 hi11 ?_
        refine x_aload_n hG dX8_best_104 rfl rfl ?_
        refine x_cVV0 hG dX8_best_105 (fun ha => c_X8_listen ha h) gX8_best_X8_listen rfl ⟨rfl, rfl⟩ hy_X8_listen ⟨Nat.le_of_ble_eq_true rfl, Nat.le_of_ble_eq_true rfl⟩ (kd_lt (rfl : kd 0 = 8) (by decide)) (fun _ => xc_8 (rfl : kd 0 = 8)) rfl (Nat.le_of_ble_eq_true rfl) (fun M17 h => ?_)
        refine x_aload_n hG dX8_best_108 rfl rfl ?_
        refine x_get_8_2 hG dX8_best_109 (rfl : kd 0 = 8) hin_X8_best_X8 (List.mem_of_getElem? (i := 3) rfl) ?_
        refine x_aload_n hG dX8_best_112 rfl rfl ?_
        refine x_get_8_5 hG dX8_best_113 (rfl : kd 0 = 8) hin_X8_best_X8 (List.mem_of_getElem? (i := 1) rfl) ?_
        refine x_iload_n hG dX8_best_116 rfl rfl ?_
        refine x_cVI2 hG dX8_best_117 (fun ha => c_X4_wholeDay ha h) gX8_best_X4_wholeDay rfl ⟨rfl, rfl⟩ hy_X4_wholeDay ⟨Nat.le_of_ble_eq_true rfl, Nat.le_of_ble_eq_true rfl⟩ (kd_lt (rfl : kd 14 = 4) (by decide)) (fun _ => xc_4 (rfl : kd 14 = 4)) rfl (Nat.le_of_ble_eq_true rfl) (fun z18 M19 h => ?_)
        refine x_istore hG dX8_best_120 (Nat.le_of_ble_eq_true rfl) rfl ?_
        refine x_aload hG dX8_best_122 rfl ?_
        refine x_iload hG dX8_best_124 rfl ?_
        refine x_dup2 hG dX8_best_126 rfl rfl ?_
        refine x_iaload hG dX8_best_127 hk10 hi11 ?_
        refine x_iconst (v := (1 : Int32)) hG dX8_best_128 (by decide) ?_
        refine x_isub hG dX8_best_129 ?_
        have h := h _ rfl
        refine x_iastore hG dX8_best_130 hk10 hi11 ?_
        refine x_iload hG dX8_best_131 rfl ?_
        refine x_iload hG dX8_best_133 rfl ?_
        refine x_icmp_le (tgt := 154) hG dX8_best_135 (by decide) (fun hc21 => ?_) (fun hc21 => ?_)
        · have h := h.1 hc21
          refine x_keep [true, true, true, true, true, true, true, true, false, false] rfl ?_
          exact k_X8_best_154 hG hQ hr57 _ _ _ _ _ _ _ _ h
        · have h := h.2 hc21
          refine x_iload hG dX8_best_138 rfl ?_
          refine x_istore hG dX8_best_140 (Nat.le_of_ble_eq_true rfl) rfl ?_
          refine x_bipush (v := (100 : Int32)) hG dX8_best_142 (by decide) ?_
          refine x_iload hG dX8_best_144 rfl ?_
          refine x_iconst (v := (2 : Int32)) hG dX8_best_146 (by decide) ?_
          refine x_idiv hG dX8_best_147 (by decide) ?_
          refine x_imul hG dX8_best_148 ?_
          refine x_iload hG dX8_best_149 rfl ?_
          refine x_iadd hG dX8_best_151 ?_
          have h := h _ rfl
          refine x_istore hG dX8_best_152 (Nat.le_of_ble_eq_true rfl) rfl ?_
          refine x_keep [true, true, true, true, true, true, true, true, false, false] rfl ?_
          exact k_X8_best_154 hG hQ hr57 _ _ _ _ _ _ _ _ h
      · have h := h.2 hc14
        refine x_goto (tgt := 154) hG dX8_best_92 (by decide) ?_
        refine x_keep [true, true, true, true, true, true, true, true, false, false] rfl ?_
        exact k_X8_best_154 hG hQ hr57 _ _ _ _ _ _ _ _ h
set_option maxRecDepth 100000 in
set_option maxHeartbeats 4000000 in
theorem c_X8_best {l : Launch} {a : Nat → Nat} {M : xMem} {p1 : Int32} {p2 : Int32} {p3 : Int32} {post : Int32 → xMem → Prop} (ha : xInj a) (h : w_X8_best M p1 p2 p3 post) : ∀ D cs sz, xMetI l yX8_best wsX8_best rm_X8_best D a cs sz M [.ref (a 0), .int p1, .int p2, .int p3] post := by
  intro D cs sz
  unfold w_X8_best at h
  refine x_metI (ty := .int) [some (.ref (a 0)), some (.int p1), some (.int p2), some (.int p3), none, none, none, none, none, none] (by decide) rfl rfl (Nat.le_of_ble_eq_true rfl) rfl rfl ha D cs sz rfl (fun G e1 e2 hG hQ => ?_)
  subst e1
  subst e2
  refine x_iload_n hG dX8_best_0 rfl rfl ?_
  refine x_cSI1 hG dX8_best_1 (fun ha => c_X8_isBit ha h) gX8_best_X8_isBit rfl ⟨rfl, rfl⟩ hy_X8_isBit ⟨Nat.le_of_ble_eq_true rfl, Nat.le_of_ble_eq_true rfl⟩ (Nat.le_of_ble_eq_true rfl) (fun z1 M2 h => ?_)
  refine x_if_eq (tgt := 21) hG dX8_best_4 (by decide) (fun hc3 => ?_) (fun hc3 => ?_)
  · have h := h.1 hc3
    refine x_iconst (v := (-1 : Int32)) hG dX8_best_21 (by decide) ?_
    exact x_iret hG hQ dX8_best_22 rfl h
  · have h := h.2 hc3
    refine x_iload_n hG dX8_best_7 rfl rfl ?_
    refine x_cSI1 hG dX8_best_8 (fun ha => c_X8_isBit ha h) gX8_best_X8_isBit rfl ⟨rfl, rfl⟩ hy_X8_isBit ⟨Nat.le_of_ble_eq_true rfl, Nat.le_of_ble_eq_true rfl⟩ (Nat.le_of_ble_eq_true rfl) (fun z4 M5 h => ?_)
    refine x_if_eq (tgt := 21) hG dX8_best_11 (by decide) (fun hc6 => ?_) (fun hc6 => ?_)
    · have h := h.1 hc6
      refine x_iconst (v := (-1 : Int32)) hG dX8_best_21 (by decide) ?_
      exact x_iret hG hQ dX8_best_22 rfl h
    · have h := h.2 hc6
      refine x_iload_n hG dX8_best_14 rfl rfl ?_
      refine x_cSI1 hG dX8_best_15 (fun ha => c_X8_isBit ha h) gX8_best_X8_isBit rfl ⟨rfl, rfl⟩ hy_X8_isBit ⟨Nat.le_of_ble_eq_true rfl, Nat.le_of_ble_eq_true rfl⟩ (Nat.le_of_ble_eq_true rfl) (fun z7 M8 h => ?_)
      refine x_if_ne (tgt := 23) hG dX8_best_18 (by decide) (fun hc9 => ?_) (fun hc9 => ?_)
      · have h := h.1 hc9
        refine x_aload_n hG dX8_best_23 rfl rfl ?_
        refine x_get_8_5 hG dX8_best_24 (rfl : kd 0 = 8) hin_X8_best_X8 (List.mem_of_getElem? (i := 1) rfl) ?_
        obtain ⟨hk10, h⟩ := h
        refine x_get_2_4 hG dX8_best_27 hk10 hin_X8_best_X2 (List.mem_of_getElem? (i := 2) rfl) ?_
        refine x_iload_n hG dX8_best_30 rfl rfl ?_
        refine x_cVR1 hG dX8_best_31 (fun ha => c_X0_rowOf ha h) gX8_best_X0_rowOf rfl ⟨rfl, rfl⟩ hy_X0_rowOf ⟨Nat.le_of_ble_eq_true rfl, Nat.le_of_ble_eq_true rfl⟩ (kd_lt (kf_2_4 hk10).1 (by decide)) (fun _ => xc_0 (kf_2_4 hk10).1) rfl (Nat.le_of_ble_eq_true rfl) (fun z11 M12 h => ?_)
        refine x_astore hG dX8_best_34 (Nat.le_of_ble_eq_true rfl) rfl ?_
        refine x_aload_n hG dX8_best_36 rfl rfl ?_
        refine x_get_8_2 hG dX8_best_37 (rfl : kd 0 = 8) hin_X8_best_X8 (List.mem_of_getElem? (i := 3) rfl) ?_
        refine x_aload_n hG dX8_best_40 rfl rfl ?_
        refine x_get_8_5 hG dX8_best_41 (rfl : kd 0 = 8) hin_X8_best_X8 (List.mem_of_getElem? (i := 1) rfl) ?_
        refine x_iload_n hG dX8_best_44 rfl rfl ?_
        refine x_cVI2 hG dX8_best_45 (fun ha => c_X4_wholeDay ha h) gX8_best_X4_wholeDay rfl ⟨rfl, rfl⟩ hy_X4_wholeDay ⟨Nat.le_of_ble_eq_true rfl, Nat.le_of_ble_eq_true rfl⟩ (kd_lt (rfl : kd 14 = 4) (by decide)) (fun _ => xc_4 (rfl : kd 14 = 4)) rfl (Nat.le_of_ble_eq_true rfl) (fun z13 M14 h => ?_)
        refine x_istore hG dX8_best_48 (Nat.le_of_ble_eq_true rfl) rfl ?_
        refine x_bipush (v := (-9 : Int32)) hG dX8_best_50 (by decide) ?_
        refine x_istore hG dX8_best_52 (Nat.le_of_ble_eq_true rfl) rfl ?_
        refine x_iconst (v := (0 : Int32)) hG dX8_best_54 (by decide) ?_
        refine x_istore hG dX8_best_55 (Nat.le_of_ble_eq_true rfl) rfl ?_
        refine x_keep [true, true, true, true, true, true, true, true, false, false] rfl ?_
        exact k_X8_best_57 hG hQ _ _ _ _ _ _ _ _ h
      · have h := h.2 hc9
        refine x_iconst (v := (-1 : Int32)) hG dX8_best_21 (by decide) ?_
        exact x_iret hG hQ dX8_best_22 rfl h
abbrev rm_X8_owedFrom : Room := { frames := 5, cells := 0, slots := 0, locals := 121 }
theorem hy_X8_owedFrom : yX8_owedFrom.cls = RX8 ∧ yX8_owedFrom.cls ≠ "java/lang/invoke/MethodHandle" ∧ yX8_owedFrom.cls ≠ "java/lang/invoke/VarHandle" ∧ (parseMethodDescriptor yX8_owedFrom.desc).map (fun d => d.parameters.length) = some 3 := by decide +kernel
theorem hin_X8_owedFrom_X2 : ∀ w ∈ wsX20, w ∈ wsX8_owedFrom := fun _ h => List.mem_cons_of_mem _ (List.mem_append_left _ (List.mem_append_left _ (List.mem_append_right _ h)))
theorem hin_X8_owedFrom_X6 : ∀ w ∈ wsX60, w ∈ wsX8_owedFrom := fun _ h => List.mem_cons_of_mem _ (List.mem_append_left _ (List.mem_append_right _ h))
theorem hin_X8_owedFrom_X8 : ∀ w ∈ wsX80, w ∈ wsX8_owedFrom := fun _ h => List.mem_cons_of_mem _ (List.mem_append_left _ (List.mem_append_left _ (List.mem_append_left _ (List.mem_append_right _ h))))
set_option maxRecDepth 100000 in
set_option maxHeartbeats 4000000 in
theorem k_X8_owedFrom_108 {G : xG} {post : Int32 → xMem → Prop} (hG : xOk G cX8_owedFrom RX8 wsX8_owedFrom rm_X8_owedFrom) (hQ : xRetI G post .int) {r19 : xMem → Int32 → Int32 → Int32 → Int32 → Prop} (hr19 : ∀ (M : xMem) (p1 : Int32) (p3 : Int32) (p4 : Int32) (p5 : Int32), r19 M p1 p3 p4 p5 → xW G M [some (.ref (xa G 0)), some (.int p1), none, some (.int p3), some (.int p4), some (.int p5), none, none] [] 19) : ∀ (M : xMem) (p1 : Int32) (p3 : Int32) (p4 : Int32) (p5 : Int32), b_X8_owedFrom_108 post r19 M p1 p3 p4 p5 → xW G M [some (.ref (xa G 0)), some (.int p1), none, some (.int p3), some (.int p4), some (.int p5), none, none] [] 108 := by
  intro M p1 p3 p4 p5 h
  unfold b_X8_owedFrom_108 at h
  refine x_iinc (v := _) hG dX8_owedFrom_108 rfl (x_iincE (k := 1) (by decide)) (Nat.le_of_ble_eq_true rfl) rfl ?_
  refine x_goto (tgt := 19) hG dX8_owedFrom_111 (by decide) ?_
  refine x_keep [true, true, false, true, true, true, false, false] rfl ?_
  exact hr19 _ _ _ _ _ h
set_option maxRecDepth 100000 in
set_option maxHeartbeats 4000000 in
theorem k_X8_owedFrom_65 {G : xG} {post : Int32 → xMem → Prop} (hG : xOk G cX8_owedFrom RX8 wsX8_owedFrom rm_X8_owedFrom) (hQ : xRetI G post .int) {r19 : xMem → Int32 → Int32 → Int32 → Int32 → Prop} (hr19 : ∀ (M : xMem) (p1 : Int32) (p3 : Int32) (p4 : Int32) (p5 : Int32), r19 M p1 p3 p4 p5 → xW G M [some (.ref (xa G 0)), some (.int p1), none, some (.int p3), some (.int p4), some (.int p5), none, none] [] 19) : ∀ (M : xMem) (p1 : Int32) (p3 : Int32) (p4 : Int32) (p5 : Int32) (p6 : Nat) (s0 : Int32), b_X8_owedFrom_65 post r19 M p1 p3 p4 p5 p6 s0 → xW G M [some (.ref (xa G 0)), some (.int p1), none, some (.int p3), some (.int p4), some (.int p5), some (.ref (xa G p6)), none] [.int s0] 65 := by
  intro M p1 p3 p4 p5 p6 s0 h
  unfold b_X8_owedFrom_65 at h
  refine x_istore hG dX8_owedFrom_65 (Nat.le_of_ble_eq_true rfl) rfl ?_
  refine x_iload hG dX8_owedFrom_67 rfl ?_
  refine x_if_eq (tgt := 108) hG dX8_owedFrom_69 (by decide) (fun hc1 => ?_) (fun hc1 => ?_)
  · have h := h.1 hc1
    refine x_keep [true, true, false, true, true, true, false, false] rfl ?_
    exact k_X8_owedFrom_108 hG hQ hr19 _ _ _ _ _ h
  · have h := h.2 hc1
    refine x_aload hG dX8_owedFrom_72 rfl ?_
    refine x_iconst (v := (0 : Int32)) hG dX8_owedFrom_74 (by decide) ?_
    obtain ⟨hk2, h⟩ := h
    obtain ⟨hi3, h⟩ := h
    refine x_iaload hG dX8_owedFrom_75 hk2 hi3 ?_
    refine x_iload_n hG dX8_owedFrom_76 rfl rfl ?_
    refine x_icmp_eq (tgt := 108) hG dX8_owedFrom_77 (by decide) (fun hc4 => ?_) (fun hc4 => ?_)
    · have h := h.1 hc4
      refine x_keep [true, true, false, true, true, true, false, false] rfl ?_
      exact k_X8_owedFrom_108 hG hQ hr19 _ _ _ _ _ h
    · have h := h.2 hc4
      refine x_aload_n hG dX8_owedFrom_80 rfl rfl ?_
      refine x_get_8_1 hG dX8_owedFrom_81 (rfl : kd 0 = 8) hin_X8_owedFrom_X8 (List.mem_of_getElem? (i := 1) rfl) ?_
      refine x_get_6_1 hG dX8_owedFrom_84 (kf_8_1 (rfl : kd 0 = 8)).1 hin_X8_owedFrom_X6 (List.mem_of_getElem? (i := 6) rfl) ?_
      refine x_aload hG dX8_owedFrom_87 rfl ?_
      refine x_iconst (v := (0 : Int32)) hG dX8_owedFrom_89 (by decide) ?_
      refine x_iaload hG dX8_owedFrom_90 hk2 hi3 ?_
      obtain ⟨hi5, h⟩ := h
      refine x_iaload hG dX8_owedFrom_91 (kf_6_1 (kf_8_1 (rfl : kd 0 = 8)).1).1 (x_inE (kf_6_1 (kf_8_1 (rfl : kd 0 = 8)).1).2 hi5) ?_
      refine x_aload hG dX8_owedFrom_92 rfl ?_
      refine x_iconst (v := (3 : Int32)) hG dX8_owedFrom_94 (by decide) ?_
      obtain ⟨hi6, h⟩ := h
      refine x_iaload hG dX8_owedFrom_95 hk2 hi6 ?_
      refine x_icmp_le (tgt := 108) hG dX8_owedFrom_96 (by decide) (fun hc7 => ?_) (fun hc7 => ?_)
      · have h := h.1 hc7
        refine x_keep [true, true, false, true, true, true, false, false] rfl ?_
        exact k_X8_owedFrom_108 hG hQ hr19 _ _ _ _ _ h
      · have h := h.2 hc7
        refine x_iload hG dX8_owedFrom_99 rfl ?_
        refine x_aload hG dX8_owedFrom_101 rfl ?_
        refine x_iconst (v := (4 : Int32)) hG dX8_owedFrom_103 (by decide) ?_
        obtain ⟨hi8, h⟩ := h
        refine x_iaload hG dX8_owedFrom_104 hk2 hi8 ?_
        refine x_iadd hG dX8_owedFrom_105 ?_
        have h := h _ rfl
        refine x_istore hG dX8_owedFrom_106 (Nat.le_of_ble_eq_true rfl) rfl ?_
        refine x_keep [true, true, false, true, true, true, false, false] rfl ?_
        exact k_X8_owedFrom_108 hG hQ hr19 _ _ _ _ _ h
set_option maxRecDepth 100000 in
set_option maxHeartbeats 4000000 in
theorem k_X8_owedFrom_19 {G : xG} {post : Int32 → xMem → Prop} (hG : xOk G cX8_owedFrom RX8 wsX8_owedFrom rm_X8_owedFrom) (hQ : xRetI G post .int) : ∀ (M : xMem) (p1 : Int32) (p3 : Int32) (p4 : Int32) (p5 : Int32), xlp5 (b_X8_owedFrom_19 post) M p1 p3 p4 p5 → xW G M [some (.ref (xa G 0)), some (.int p1), none, some (.int p3), some (.int p4), some (.int p5), none, none] [] 19 := by
  refine xlp5_W (W := fun M p1 p3 p4 p5 => xW G M [some (.ref (xa G 0)), some (.int p1), none, some (.int p3), some (.int p4), some (.int p5), none, none] [] 19) (fun r19 hr19 => ?_)
  intro M p1 p3 p4 p5 h
  unfold b_X8_owedFrom_19 at h
  refine x_iload hG dX8_owedFrom_19 rfl ?_
  refine x_aload_n hG dX8_owedFrom_21 rfl rfl ?_
  refine x_get_8_5 hG dX8_owedFrom_22 (rfl : kd 0 = 8) hin_X8_owedFrom_X8 (List.mem_of_getElem? (i := 2) rfl) ?_
  obtain ⟨hk1, h⟩ := h
  refine x_get_2_3 hG dX8_owedFrom_25 hk1 hin_X8_owedFrom_X2 (List.mem_of_getElem? (i := 3) rfl) ?_
  refine x_icmp_ge (tgt := 114) hG dX8_owedFrom_28 (by decide) (fun hc2 => ?_) (fun hc2 => ?_)
  · have h := h.1 hc2
    refine x_iload hG dX8_owedFrom_114 rfl ?_
    exact x_iret hG hQ dX8_owedFrom_116 rfl h
  · have h := h.2 hc2
    refine x_aload_n hG dX8_owedFrom_31 rfl rfl ?_
    refine x_get_8_5 hG dX8_owedFrom_32 (rfl : kd 0 = 8) hin_X8_owedFrom_X8 (List.mem_of_getElem? (i := 2) rfl) ?_
    refine x_get_2_6 hG dX8_owedFrom_35 hk1 hin_X8_owedFrom_X2 (List.mem_of_getElem? (i := 4) rfl) ?_
    refine x_iload hG dX8_owedFrom_38 rfl ?_
    obtain ⟨hi3, h⟩ := h
    refine x_aaload11 hG dX8_owedFrom_40 (kf_2_6 hk1).1 (x_inE (kf_2_6 hk1).2 hi3) ?_
    refine x_astore hG dX8_owedFrom_41 (Nat.le_of_ble_eq_true rfl) rfl ?_
    refine x_aload_n hG dX8_owedFrom_43 rfl rfl ?_
    refine x_get_8_5 hG dX8_owedFrom_44 (rfl : kd 0 = 8) hin_X8_owedFrom_X8 (List.mem_of_getElem? (i := 2) rfl) ?_
    refine x_get_2_7 hG dX8_owedFrom_47 hk1 hin_X8_owedFrom_X2 (List.mem_of_getElem? (i := 5) rfl) ?_
    refine x_iload_n hG dX8_owedFrom_50 rfl rfl ?_
    obtain ⟨hi4, h⟩ := h
    refine x_iaload hG dX8_owedFrom_51 (kf_2_7 hk1).1 (x_inE (kf_2_7 hk1).2 hi4) ?_
    refine x_iload hG dX8_owedFrom_52 rfl ?_
    refine x_ishr hG dX8_owedFrom_54 ?_
    refine x_iconst (v := (1 : Int32)) hG dX8_owedFrom_55 (by decide) ?_
    refine x_iand hG dX8_owedFrom_56 ?_
    refine x_if_eq (tgt := 64) hG dX8_owedFrom_57 (by decide) (fun hc5 => ?_) (fun hc5 => ?_)
    · have h := h.1 hc5
      refine x_iconst (v := (0 : Int32)) hG dX8_owedFrom_64 (by decide) ?_
      refine x_keep [true, true, false, true, true, true, true, false] rfl ?_
      exact k_X8_owedFrom_65 hG hQ hr19 _ _ _ _ _ _ _ h
    · have h := h.2 hc5
      refine x_iconst (v := (1 : Int32)) hG dX8_owedFrom_60 (by decide) ?_
      refine x_goto (tgt := 65) hG dX8_owedFrom_61 (by decide) ?_
      refine x_keep [true, true, false, true, true, true, true, false] rfl ?_
      exact k_X8_owedFrom_65 hG hQ hr19 _ _ _ _ _ _ _ h
set_option maxRecDepth 100000 in
set_option maxHeartbeats 4000000 in
theorem c_X8_owedFrom {l : Launch} {a : Nat → Nat} {M : xMem} {p1 : Int32} {p2 : Int32} {p3 : Int32} {post : Int32 → xMem → Prop} (ha : xInj a) (h : w_X8_owedFrom M p1 p2 p3 post) : ∀ D cs sz, xMetI l yX8_owedFrom wsX8_owedFrom rm_X8_owedFrom D a cs sz M [.ref (a 0), .int p1, .int p2, .int p3] post := by
  intro D cs sz
  unfold w_X8_owedFrom at h
  refine x_metI (ty := .int) [some (.ref (a 0)), some (.int p1), some (.int p2), some (.int p3), none, none, none, none] (by decide) rfl rfl (Nat.le_of_ble_eq_true rfl) rfl rfl ha D cs sz rfl (fun G e1 e2 hG hQ => ?_)
  subst e1
  subst e2
  refine x_aload_n hG dX8_owedFrom_0 rfl rfl ?_
  refine x_get_8_1 hG dX8_owedFrom_1 (rfl : kd 0 = 8) hin_X8_owedFrom_X8 (List.mem_of_getElem? (i := 1) rfl) ?_
  refine x_aload_n hG dX8_owedFrom_4 rfl rfl ?_
  refine x_get_8_5 hG dX8_owedFrom_5 (rfl : kd 0 = 8) hin_X8_owedFrom_X8 (List.mem_of_getElem? (i := 2) rfl) ?_
  refine x_iload_n hG dX8_owedFrom_8 rfl rfl ?_
  refine x_iload_n hG dX8_owedFrom_9 rfl rfl ?_
  refine x_cVV3 hG dX8_owedFrom_10 (fun ha => c_X6_hearSaw ha h) gX8_owedFrom_X6_hearSaw rfl ⟨rfl, rfl⟩ hy_X6_hearSaw ⟨Nat.le_of_ble_eq_true rfl, Nat.le_of_ble_eq_true rfl⟩ (kd_lt (rfl : kd 5 = 6) (by decide)) (fun _ => xc_6 (rfl : kd 5 = 6)) rfl (Nat.le_of_ble_eq_true rfl) (fun M2 h => ?_)
  refine x_iconst (v := (0 : Int32)) hG dX8_owedFrom_13 (by decide) ?_
  refine x_istore hG dX8_owedFrom_14 (Nat.le_of_ble_eq_true rfl) rfl ?_
  refine x_iconst (v := (0 : Int32)) hG dX8_owedFrom_16 (by decide) ?_
  refine x_istore hG dX8_owedFrom_17 (Nat.le_of_ble_eq_true rfl) rfl ?_
  refine x_keep [true, true, false, true, true, true, false, false] rfl ?_
  exact k_X8_owedFrom_19 hG hQ _ _ _ _ _ h
abbrev rm_X8_saw : Room := { frames := 6, cells := 0, slots := 0, locals := 148 }
theorem hy_X8_saw : yX8_saw.cls = RX8 ∧ yX8_saw.cls ≠ "java/lang/invoke/MethodHandle" ∧ yX8_saw.cls ≠ "java/lang/invoke/VarHandle" ∧ (parseMethodDescriptor yX8_saw.desc).map (fun d => d.parameters.length) = some 3 := by decide +kernel
theorem hin_X8_saw_X8 : ∀ w ∈ wsX80, w ∈ wsX8_saw := fun _ h => List.mem_cons_of_mem _ (List.mem_append_left _ (List.mem_append_left _ (List.mem_append_left _ (List.mem_append_right _ h))))
set_option maxRecDepth 100000 in
set_option maxHeartbeats 4000000 in
theorem k_X8_saw_78 {G : xG} {post : Int32 → xMem → Prop} (hG : xOk G cX8_saw RX8 wsX8_saw rm_X8_saw) (hQ : xRetI G post .int) {r41 : xMem → Int32 → Int32 → Int32 → Int32 → Int32 → Int32 → Prop} (hr41 : ∀ (M : xMem) (p1 : Int32) (p2 : Int32) (p3 : Int32) (p4 : Int32) (p5 : Int32) (p6 : Int32), r41 M p1 p2 p3 p4 p5 p6 → xW G M [some (.ref (xa G 0)), some (.int p1), some (.int p2), some (.int p3), some (.int p4), some (.int p5), some (.int p6), none] [] 41) : ∀ (M : xMem) (p1 : Int32) (p2 : Int32) (p3 : Int32) (p4 : Int32) (p5 : Int32) (p6 : Int32), b_X8_saw_78 post r41 M p1 p2 p3 p4 p5 p6 → xW G M [some (.ref (xa G 0)), some (.int p1), some (.int p2), some (.int p3), some (.int p4), some (.int p5), some (.int p6), none] [] 78 := by
  intro M p1 p2 p3 p4 p5 p6 h
  unfold b_X8_saw_78 at h
  refine x_iinc (v := _) hG dX8_saw_78 rfl (x_iincE (k := 1) (by decide)) (Nat.le_of_ble_eq_true rfl) rfl ?_
  refine x_goto (tgt := 41) hG dX8_saw_81 (by decide) ?_
  refine x_keep [true, true, true, true, true, true, true, false] rfl ?_
  exact hr41 _ _ _ _ _ _ _ h
set_option maxRecDepth 100000 in
set_option maxHeartbeats 4000000 in
theorem k_X8_saw_41 {G : xG} {post : Int32 → xMem → Prop} (hG : xOk G cX8_saw RX8 wsX8_saw rm_X8_saw) (hQ : xRetI G post .int) : ∀ (M : xMem) (p1 : Int32) (p2 : Int32) (p3 : Int32) (p4 : Int32) (p5 : Int32) (p6 : Int32), xlp7 (b_X8_saw_41 post) M p1 p2 p3 p4 p5 p6 → xW G M [some (.ref (xa G 0)), some (.int p1), some (.int p2), some (.int p3), some (.int p4), some (.int p5), some (.int p6), none] [] 41 := by
  refine xlp7_W (W := fun M p1 p2 p3 p4 p5 p6 => xW G M [some (.ref (xa G 0)), some (.int p1), some (.int p2), some (.int p3), some (.int p4), some (.int p5), some (.int p6), none] [] 41) (fun r41 hr41 => ?_)
  intro M p1 p2 p3 p4 p5 p6 h
  unfold b_X8_saw_41 at h
  refine x_iload hG dX8_saw_41 rfl ?_
  refine x_aload_n hG dX8_saw_43 rfl rfl ?_
  refine x_get_8_5 hG dX8_saw_44 (rfl : kd 0 = 8) hin_X8_saw_X8 (List.mem_of_getElem? (i := 1) rfl) ?_
  have hk1 : kd ((M.1 0 5).toNatClampNeg) = 2 := And.left h
  refine x_cVI0 hG dX8_saw_47 (fun ha => c_X2_yards ha h) gX8_saw_X2_yards rfl ⟨rfl, rfl⟩ hy_X2_yards ⟨Nat.le_of_ble_eq_true rfl, Nat.le_of_ble_eq_true rfl⟩ (kd_lt hk1 (by decide)) (fun _ => xc_2 hk1) rfl (Nat.le_of_ble_eq_true rfl) (fun z2 M3 h => ?_)
  refine x_icmp_ge (tgt := 84) hG dX8_saw_50 (by decide) (fun hc4 => ?_) (fun hc4 => ?_)
  · have h := h.1 hc4
    refine x_iload_n hG dX8_saw_84 rfl rfl ?_
    refine x_if_ne (tgt := 93) hG dX8_saw_85 (by decide) (fun hc5 => ?_) (fun hc5 => ?_)
    · have h := h.1 hc5
      refine x_iload hG dX8_saw_93 rfl ?_
      exact x_iret hG hQ dX8_saw_95 rfl h
    · have h := h.2 hc5
      refine x_iload hG dX8_saw_88 rfl ?_
      refine x_goto (tgt := 95) hG dX8_saw_90 (by decide) ?_
      exact x_iret hG hQ dX8_saw_95 rfl h
  · have h := h.2 hc4
    refine x_aload_n hG dX8_saw_53 rfl rfl ?_
    refine x_iload hG dX8_saw_54 rfl ?_
    refine x_iload_n hG dX8_saw_56 rfl rfl ?_
    refine x_iload_n hG dX8_saw_57 rfl rfl ?_
    refine x_cVI3 hG dX8_saw_58 (fun ha => c_X8_owedFrom ha h) gX8_saw_X8_owedFrom rfl ⟨rfl, rfl⟩ hy_X8_owedFrom ⟨Nat.le_of_ble_eq_true rfl, Nat.le_of_ble_eq_true rfl⟩ (kd_lt (rfl : kd 0 = 8) (by decide)) (fun _ => xc_8 (rfl : kd 0 = 8)) rfl (Nat.le_of_ble_eq_true rfl) (fun z6 M7 h => ?_)
    refine x_istore hG dX8_saw_61 (Nat.le_of_ble_eq_true rfl) rfl ?_
    refine x_iload hG dX8_saw_63 rfl ?_
    refine x_iload hG dX8_saw_65 rfl ?_
    refine x_icmp_ge (tgt := 78) hG dX8_saw_67 (by decide) (fun hc8 => ?_) (fun hc8 => ?_)
    · have h := h.1 hc8
      refine x_keep [true, true, true, true, true, true, true, false] rfl ?_
      exact k_X8_saw_78 hG hQ hr41 _ _ _ _ _ _ _ h
    · have h := h.2 hc8
      refine x_iload hG dX8_saw_70 rfl ?_
      refine x_istore hG dX8_saw_72 (Nat.le_of_ble_eq_true rfl) rfl ?_
      refine x_iload hG dX8_saw_74 rfl ?_
      refine x_istore hG dX8_saw_76 (Nat.le_of_ble_eq_true rfl) rfl ?_
      refine x_keep [true, true, true, true, true, true, true, false] rfl ?_
      exact k_X8_saw_78 hG hQ hr41 _ _ _ _ _ _ _ h
set_option maxRecDepth 100000 in
set_option maxHeartbeats 4000000 in
theorem c_X8_saw {l : Launch} {a : Nat → Nat} {M : xMem} {p1 : Int32} {p2 : Int32} {p3 : Int32} {post : Int32 → xMem → Prop} (ha : xInj a) (h : w_X8_saw M p1 p2 p3 post) : ∀ D cs sz, xMetI l yX8_saw wsX8_saw rm_X8_saw D a cs sz M [.ref (a 0), .int p1, .int p2, .int p3] post := by
  intro D cs sz
  unfold w_X8_saw at h
  refine x_metI (ty := .int) [some (.ref (a 0)), some (.int p1), some (.int p2), some (.int p3), none, none, none, none] (by decide) rfl rfl (Nat.le_of_ble_eq_true rfl) rfl rfl ha D cs sz rfl (fun G e1 e2 hG hQ => ?_)
  subst e1
  subst e2
  refine x_iload_n hG dX8_saw_0 rfl rfl ?_
  refine x_iconst (v := (1 : Int32)) hG dX8_saw_1 (by decide) ?_
  refine x_bipush (v := (99 : Int32)) hG dX8_saw_2 (by decide) ?_
  refine x_cSI3 hG dX8_saw_4 (fun ha => c_X8_within ha h) gX8_saw_X8_within rfl ⟨rfl, rfl⟩ hy_X8_within ⟨Nat.le_of_ble_eq_true rfl, Nat.le_of_ble_eq_true rfl⟩ (Nat.le_of_ble_eq_true rfl) (fun z1 M2 h => ?_)
  refine x_if_eq (tgt := 24) hG dX8_saw_7 (by decide) (fun hc3 => ?_) (fun hc3 => ?_)
  · have h := h.1 hc3
    refine x_iconst (v := (-1 : Int32)) hG dX8_saw_24 (by decide) ?_
    exact x_iret hG hQ dX8_saw_25 rfl h
  · have h := h.2 hc3
    refine x_iload_n hG dX8_saw_10 rfl rfl ?_
    refine x_cSI1 hG dX8_saw_11 (fun ha => c_X8_isHour ha h) gX8_saw_X8_isHour rfl ⟨rfl, rfl⟩ hy_X8_isHour ⟨Nat.le_of_ble_eq_true rfl, Nat.le_of_ble_eq_true rfl⟩ (Nat.le_of_ble_eq_true rfl) (fun z4 M5 h => ?_)
    refine x_if_eq (tgt := 24) hG dX8_saw_14 (by decide) (fun hc6 => ?_) (fun hc6 => ?_)
    · have h := h.1 hc6
      refine x_iconst (v := (-1 : Int32)) hG dX8_saw_24 (by decide) ?_
      exact x_iret hG hQ dX8_saw_25 rfl h
    · have h := h.2 hc6
      refine x_iload_n hG dX8_saw_17 rfl rfl ?_
      refine x_cSI1 hG dX8_saw_18 (fun ha => c_X8_isBit ha h) gX8_saw_X8_isBit rfl ⟨rfl, rfl⟩ hy_X8_isBit ⟨Nat.le_of_ble_eq_true rfl, Nat.le_of_ble_eq_true rfl⟩ (Nat.le_of_ble_eq_true rfl) (fun z7 M8 h => ?_)
      refine x_if_ne (tgt := 26) hG dX8_saw_21 (by decide) (fun hc9 => ?_) (fun hc9 => ?_)
      · have h := h.1 hc9
        refine x_aload_n hG dX8_saw_26 rfl rfl ?_
        refine x_iconst (v := (0 : Int32)) hG dX8_saw_27 (by decide) ?_
        refine x_iload_n hG dX8_saw_28 rfl rfl ?_
        refine x_iload_n hG dX8_saw_29 rfl rfl ?_
        refine x_cVI3 hG dX8_saw_30 (fun ha => c_X8_owedFrom ha h) gX8_saw_X8_owedFrom rfl ⟨rfl, rfl⟩ hy_X8_owedFrom ⟨Nat.le_of_ble_eq_true rfl, Nat.le_of_ble_eq_true rfl⟩ (kd_lt (rfl : kd 0 = 8) (by decide)) (fun _ => xc_8 (rfl : kd 0 = 8)) rfl (Nat.le_of_ble_eq_true rfl) (fun z10 M11 h => ?_)
        refine x_istore hG dX8_saw_33 (Nat.le_of_ble_eq_true rfl) rfl ?_
        refine x_iconst (v := (0 : Int32)) hG dX8_saw_35 (by decide) ?_
        refine x_istore hG dX8_saw_36 (Nat.le_of_ble_eq_true rfl) rfl ?_
        refine x_iconst (v := (1 : Int32)) hG dX8_saw_38 (by decide) ?_
        refine x_istore hG dX8_saw_39 (Nat.le_of_ble_eq_true rfl) rfl ?_
        refine x_keep [true, true, true, true, true, true, true, false] rfl ?_
        exact k_X8_saw_41 hG hQ _ _ _ _ _ _ _ h
      · have h := h.2 hc9
        refine x_iconst (v := (-1 : Int32)) hG dX8_saw_24 (by decide) ?_
        exact x_iret hG hQ dX8_saw_25 rfl h
abbrev rm_X8_hear : Room := { frames := 1, cells := 0, slots := 0, locals := 22 }
theorem hy_X8_hear : yX8_hear.cls = RX8 ∧ yX8_hear.cls ≠ "java/lang/invoke/MethodHandle" ∧ yX8_hear.cls ≠ "java/lang/invoke/VarHandle" ∧ (parseMethodDescriptor yX8_hear.desc).map (fun d => d.parameters.length) = some 2 := by decide +kernel
theorem hin_X8_hear_X8 : ∀ w ∈ wsX80, w ∈ wsX8_hear := fun _ h => List.mem_cons_of_mem _ (List.mem_append_left _ (List.mem_append_left _ (List.mem_append_right _ h)))
set_option maxRecDepth 100000 in
set_option maxHeartbeats 4000000 in
theorem c_X8_hear {l : Launch} {a : Nat → Nat} {M : xMem} {p1 : Int32} {p2 : Int32} {post : Int32 → xMem → Prop} (ha : xInj a) (h : w_X8_hear M p1 p2 post) : ∀ D cs sz, xMetI l yX8_hear wsX8_hear rm_X8_hear D a cs sz M [.ref (a 0), .int p1, .int p2] post := by
  intro D cs sz
  unfold w_X8_hear at h
  refine x_metI (ty := .int) [some (.ref (a 0)), some (.int p1), some (.int p2)] (by decide) rfl rfl (Nat.le_of_ble_eq_true rfl) rfl rfl ha D cs sz rfl (fun G e1 e2 hG hQ => ?_)
  subst e1
  subst e2
  refine x_aload_n hG dX8_hear_0 rfl rfl ?_
  refine x_get_8_5 hG dX8_hear_1 (rfl : kd 0 = 8) hin_X8_hear_X8 (List.mem_of_getElem? (i := 1) rfl) ?_
  refine x_iload_n hG dX8_hear_4 rfl rfl ?_
  have hk1 : kd ((M.1 0 5).toNatClampNeg) = 2 := And.left h
  refine x_cVI1 hG dX8_hear_5 (fun ha => c_X2_isYard ha h) gX8_hear_X2_isYard rfl ⟨rfl, rfl⟩ hy_X2_isYard ⟨Nat.le_of_ble_eq_true rfl, Nat.le_of_ble_eq_true rfl⟩ (kd_lt hk1 (by decide)) (fun _ => xc_2 hk1) rfl (Nat.le_of_ble_eq_true rfl) (fun z2 M3 h => ?_)
  refine x_if_eq (tgt := 22) hG dX8_hear_8 (by decide) (fun hc4 => ?_) (fun hc4 => ?_)
  · have h := h.1 hc4
    refine x_iconst (v := (-1 : Int32)) hG dX8_hear_22 (by decide) ?_
    exact x_iret hG hQ dX8_hear_23 rfl h
  · have h := h.2 hc4
    refine x_iload_n hG dX8_hear_11 rfl rfl ?_
    refine x_iconst (v := (0 : Int32)) hG dX8_hear_12 (by decide) ?_
    refine x_sipush (v := (999 : Int32)) hG dX8_hear_13 (by decide) ?_
    refine x_cSI3 hG dX8_hear_16 (fun ha => c_X8_within ha h) gX8_hear_X8_within rfl ⟨rfl, rfl⟩ hy_X8_within ⟨Nat.le_of_ble_eq_true rfl, Nat.le_of_ble_eq_true rfl⟩ (Nat.le_of_ble_eq_true rfl) (fun z5 M6 h => ?_)
    refine x_if_ne (tgt := 24) hG dX8_hear_19 (by decide) (fun hc7 => ?_) (fun hc7 => ?_)
    · have h := h.1 hc7
      refine x_aload_n hG dX8_hear_24 rfl rfl ?_
      refine x_get_8_3 hG dX8_hear_25 (rfl : kd 0 = 8) hin_X8_hear_X8 (List.mem_of_getElem? (i := 2) rfl) ?_
      refine x_iload_n hG dX8_hear_28 rfl rfl ?_
      refine x_iload_n hG dX8_hear_29 rfl rfl ?_
      refine x_cVI2 hG dX8_hear_30 (fun ha => c_X1_add ha h) gX8_hear_X1_add rfl ⟨rfl, rfl⟩ hy_X1_add ⟨Nat.le_of_ble_eq_true rfl, Nat.le_of_ble_eq_true rfl⟩ (kd_lt (kf_8_3 (rfl : kd 0 = 8)).1 (by decide)) (fun _ => xc_1 (kf_8_3 (rfl : kd 0 = 8)).1) rfl (Nat.le_of_ble_eq_true rfl) (fun z8 M9 h => ?_)
      exact x_iret hG hQ dX8_hear_33 rfl h
    · have h := h.2 hc7
      refine x_iconst (v := (-1 : Int32)) hG dX8_hear_22 (by decide) ?_
      exact x_iret hG hQ dX8_hear_23 rfl h
abbrev rm_X8_forget : Room := { frames := 1, cells := 0, slots := 0, locals := 21 }
theorem hy_X8_forget : yX8_forget.cls = RX8 ∧ yX8_forget.cls ≠ "java/lang/invoke/MethodHandle" ∧ yX8_forget.cls ≠ "java/lang/invoke/VarHandle" ∧ (parseMethodDescriptor yX8_forget.desc).map (fun d => d.parameters.length) = some 0 := by decide +kernel
theorem hin_X8_forget_X8 : ∀ w ∈ wsX80, w ∈ wsX8_forget := fun _ h => List.mem_cons_of_mem _ (List.mem_append_left _ (List.mem_append_right _ h))
set_option maxRecDepth 100000 in
set_option maxHeartbeats 4000000 in
theorem c_X8_forget {l : Launch} {a : Nat → Nat} {M : xMem} {post : Int32 → xMem → Prop} (ha : xInj a) (h : w_X8_forget M post) : ∀ D cs sz, xMetI l yX8_forget wsX8_forget rm_X8_forget D a cs sz M [.ref (a 0)] post := by
  intro D cs sz
  unfold w_X8_forget at h
  refine x_metI (ty := .int) [some (.ref (a 0))] (by decide) rfl rfl (Nat.le_of_ble_eq_true rfl) rfl rfl ha D cs sz rfl (fun G e1 e2 hG hQ => ?_)
  subst e1
  subst e2
  refine x_aload_n hG dX8_forget_0 rfl rfl ?_
  refine x_get_8_3 hG dX8_forget_1 (rfl : kd 0 = 8) hin_X8_forget_X8 (List.mem_of_getElem? (i := 1) rfl) ?_
  refine x_cVI0 hG dX8_forget_4 (fun ha => c_X1_empty ha h) gX8_forget_X1_empty rfl ⟨rfl, rfl⟩ hy_X1_empty ⟨Nat.le_of_ble_eq_true rfl, Nat.le_of_ble_eq_true rfl⟩ (kd_lt (kf_8_3 (rfl : kd 0 = 8)).1 (by decide)) (fun _ => xc_1 (kf_8_3 (rfl : kd 0 = 8)).1) rfl (Nat.le_of_ble_eq_true rfl) (fun z1 M2 h => ?_)
  exact x_iret hG hQ dX8_forget_7 rfl h
abbrev rm_X8_fitsHearsay : Room := { frames := 1, cells := 0, slots := 0, locals := 25 }
theorem hy_X8_fitsHearsay : yX8_fitsHearsay.cls = RX8 ∧ yX8_fitsHearsay.cls ≠ "java/lang/invoke/MethodHandle" ∧ yX8_fitsHearsay.cls ≠ "java/lang/invoke/VarHandle" ∧ (parseMethodDescriptor yX8_fitsHearsay.desc).map (fun d => d.parameters.length) = some 1 := by decide +kernel
theorem hin_X8_fitsHearsay_X1 : ∀ w ∈ wsX10, w ∈ wsX8_fitsHearsay := fun _ h => List.mem_cons_of_mem _ (List.mem_append_left _ (List.mem_append_left _ (List.mem_append_right _ h)))
theorem hin_X8_fitsHearsay_X8 : ∀ w ∈ wsX80, w ∈ wsX8_fitsHearsay := fun _ h => List.mem_cons_of_mem _ (List.mem_append_left _ (List.mem_append_left _ (List.mem_append_left _ (List.mem_append_right _ h))))
set_option maxRecDepth 100000 in
set_option maxHeartbeats 4000000 in
theorem k_X8_fitsHearsay_2 {G : xG} {post : Int32 → xMem → Prop} (hG : xOk G cX8_fitsHearsay RX8 wsX8_fitsHearsay rm_X8_fitsHearsay) (hQ : xRetI G post .boolean) : ∀ (M : xMem) (p1 : Int32) (p2 : Int32), xlp3 (b_X8_fitsHearsay_2 post) M p1 p2 → xW G M [some (.ref (xa G 0)), some (.int p1), some (.int p2)] [] 2 := by
  refine xlp3_W (W := fun M p1 p2 => xW G M [some (.ref (xa G 0)), some (.int p1), some (.int p2)] [] 2) (fun r2 hr2 => ?_)
  intro M p1 p2 h
  unfold b_X8_fitsHearsay_2 at h
  refine x_iload_n hG dX8_fitsHearsay_2 rfl rfl ?_
  refine x_aload_n hG dX8_fitsHearsay_3 rfl rfl ?_
  refine x_get_8_3 hG dX8_fitsHearsay_4 (rfl : kd 0 = 8) hin_X8_fitsHearsay_X8 (List.mem_of_getElem? (i := 1) rfl) ?_
  refine x_get_1_2 hG dX8_fitsHearsay_7 (kf_8_3 (rfl : kd 0 = 8)).1 hin_X8_fitsHearsay_X1 (List.mem_of_getElem? (i := 2) rfl) ?_
  refine x_icmp_ge (tgt := 54) hG dX8_fitsHearsay_10 (by decide) (fun hc1 => ?_) (fun hc1 => ?_)
  · have h := h.1 hc1
    refine x_iconst (v := (1 : Int32)) hG dX8_fitsHearsay_54 (by decide) ?_
    exact x_iret hG hQ dX8_fitsHearsay_55 rfl h
  · have h := h.2 hc1
    refine x_aload_n hG dX8_fitsHearsay_13 rfl rfl ?_
    refine x_get_8_1 hG dX8_fitsHearsay_14 (rfl : kd 0 = 8) hin_X8_fitsHearsay_X8 (List.mem_of_getElem? (i := 3) rfl) ?_
    refine x_aload_n hG dX8_fitsHearsay_17 rfl rfl ?_
    refine x_get_8_5 hG dX8_fitsHearsay_18 (rfl : kd 0 = 8) hin_X8_fitsHearsay_X8 (List.mem_of_getElem? (i := 4) rfl) ?_
    refine x_aload_n hG dX8_fitsHearsay_21 rfl rfl ?_
    refine x_get_8_3 hG dX8_fitsHearsay_22 (rfl : kd 0 = 8) hin_X8_fitsHearsay_X8 (List.mem_of_getElem? (i := 1) rfl) ?_
    refine x_get_1_0 hG dX8_fitsHearsay_25 (kf_8_3 (rfl : kd 0 = 8)).1 hin_X8_fitsHearsay_X1 (List.mem_of_getElem? (i := 5) rfl) ?_
    refine x_iload_n hG dX8_fitsHearsay_28 rfl rfl ?_
    obtain ⟨hi2, h⟩ := h
    refine x_iaload hG dX8_fitsHearsay_29 (kf_1_0 (kf_8_3 (rfl : kd 0 = 8)).1).1 (x_inE (kf_1_0 (kf_8_3 (rfl : kd 0 = 8)).1).2 hi2) ?_
    refine x_iload_n hG dX8_fitsHearsay_30 rfl rfl ?_
    refine x_cVI3 hG dX8_fitsHearsay_31 (fun ha => c_X6_heardIn ha h) gX8_fitsHearsay_X6_heardIn rfl ⟨rfl, rfl⟩ hy_X6_heardIn ⟨Nat.le_of_ble_eq_true rfl, Nat.le_of_ble_eq_true rfl⟩ (kd_lt (rfl : kd 5 = 6) (by decide)) (fun _ => xc_6 (rfl : kd 5 = 6)) rfl (Nat.le_of_ble_eq_true rfl) (fun z3 M4 h => ?_)
    refine x_aload_n hG dX8_fitsHearsay_34 rfl rfl ?_
    refine x_get_8_3 hG dX8_fitsHearsay_35 (rfl : kd 0 = 8) hin_X8_fitsHearsay_X8 (List.mem_of_getElem? (i := 1) rfl) ?_
    refine x_get_1_1 hG dX8_fitsHearsay_38 (kf_8_3 (rfl : kd 0 = 8)).1 hin_X8_fitsHearsay_X1 (List.mem_of_getElem? (i := 6) rfl) ?_
    refine x_iload_n hG dX8_fitsHearsay_41 rfl rfl ?_
    obtain ⟨hi5, h⟩ := h
    refine x_iaload hG dX8_fitsHearsay_42 (kf_1_1 (kf_8_3 (rfl : kd 0 = 8)).1).1 (x_inE (kf_1_1 (kf_8_3 (rfl : kd 0 = 8)).1).2 hi5) ?_
    refine x_icmp_eq (tgt := 48) hG dX8_fitsHearsay_43 (by decide) (fun hc6 => ?_) (fun hc6 => ?_)
    · have h := h.1 hc6
      refine x_iinc (v := _) hG dX8_fitsHearsay_48 rfl (x_iincE (k := 1) (by decide)) (Nat.le_of_ble_eq_true rfl) rfl ?_
      refine x_goto (tgt := 2) hG dX8_fitsHearsay_51 (by decide) ?_
      refine x_keep [true, true, true] rfl ?_
      exact hr2 _ _ _ h
    · have h := h.2 hc6
      refine x_iconst (v := (0 : Int32)) hG dX8_fitsHearsay_46 (by decide) ?_
      exact x_iret hG hQ dX8_fitsHearsay_47 rfl h
set_option maxRecDepth 100000 in
set_option maxHeartbeats 4000000 in
theorem c_X8_fitsHearsay {l : Launch} {a : Nat → Nat} {M : xMem} {p1 : Int32} {post : Int32 → xMem → Prop} (ha : xInj a) (h : w_X8_fitsHearsay M p1 post) : ∀ D cs sz, xMetI l yX8_fitsHearsay wsX8_fitsHearsay rm_X8_fitsHearsay D a cs sz M [.ref (a 0), .int p1] post := by
  intro D cs sz
  unfold w_X8_fitsHearsay at h
  refine x_metI (ty := .boolean) [some (.ref (a 0)), some (.int p1), none] (by decide) rfl rfl (Nat.le_of_ble_eq_true rfl) rfl rfl ha D cs sz rfl (fun G e1 e2 hG hQ => ?_)
  subst e1
  subst e2
  refine x_iconst (v := (0 : Int32)) hG dX8_fitsHearsay_0 (by decide) ?_
  refine x_istore_n hG dX8_fitsHearsay_1 rfl (Nat.le_of_ble_eq_true rfl) rfl ?_
  refine x_keep [true, true, true] rfl ?_
  exact k_X8_fitsHearsay_2 hG hQ _ _ _ h
abbrev rm_X8_who : Room := { frames := 2, cells := 0, slots := 0, locals := 47 }
theorem hy_X8_who : yX8_who.cls = RX8 ∧ yX8_who.cls ≠ "java/lang/invoke/MethodHandle" ∧ yX8_who.cls ≠ "java/lang/invoke/VarHandle" ∧ (parseMethodDescriptor yX8_who.desc).map (fun d => d.parameters.length) = some 1 := by decide +kernel
theorem hin_X8_who_X8 : ∀ w ∈ wsX80, w ∈ wsX8_who := fun _ h => List.mem_cons_of_mem _ (List.mem_append_left _ (List.mem_append_left _ (List.mem_append_left _ (List.mem_append_right _ h))))
set_option maxRecDepth 100000 in
set_option maxHeartbeats 4000000 in
theorem k_X8_who_66 {G : xG} {post : Int32 → xMem → Prop} (hG : xOk G cX8_who RX8 wsX8_who rm_X8_who) (hQ : xRetI G post .int) {r27 : xMem → Int32 → Int32 → Int32 → Int32 → Int32 → Prop} (hr27 : ∀ (M : xMem) (p1 : Int32) (p2 : Int32) (p3 : Int32) (p4 : Int32) (p5 : Int32), r27 M p1 p2 p3 p4 p5 → xW G M [some (.ref (xa G 0)), some (.int p1), some (.int p2), some (.int p3), some (.int p4), some (.int p5)] [] 27) : ∀ (M : xMem) (p1 : Int32) (p2 : Int32) (p3 : Int32) (p4 : Int32) (p5 : Int32), b_X8_who_66 post r27 M p1 p2 p3 p4 p5 → xW G M [some (.ref (xa G 0)), some (.int p1), some (.int p2), some (.int p3), some (.int p4), some (.int p5)] [] 66 := by
  intro M p1 p2 p3 p4 p5 h
  unfold b_X8_who_66 at h
  refine x_iinc (v := _) hG dX8_who_66 rfl (x_iincE (k := 1) (by decide)) (Nat.le_of_ble_eq_true rfl) rfl ?_
  refine x_goto (tgt := 27) hG dX8_who_69 (by decide) ?_
  refine x_keep [true, true, true, true, true, true] rfl ?_
  exact hr27 _ _ _ _ _ _ h
set_option maxRecDepth 100000 in
set_option maxHeartbeats 4000000 in
theorem k_X8_who_27 {G : xG} {post : Int32 → xMem → Prop} (hG : xOk G cX8_who RX8 wsX8_who rm_X8_who) (hQ : xRetI G post .int) : ∀ (M : xMem) (p1 : Int32) (p2 : Int32) (p3 : Int32) (p4 : Int32) (p5 : Int32), xlp6 (b_X8_who_27 post) M p1 p2 p3 p4 p5 → xW G M [some (.ref (xa G 0)), some (.int p1), some (.int p2), some (.int p3), some (.int p4), some (.int p5)] [] 27 := by
  refine xlp6_W (W := fun M p1 p2 p3 p4 p5 => xW G M [some (.ref (xa G 0)), some (.int p1), some (.int p2), some (.int p3), some (.int p4), some (.int p5)] [] 27) (fun r27 hr27 => ?_)
  intro M p1 p2 p3 p4 p5 h
  unfold b_X8_who_27 at h
  refine x_iload hG dX8_who_27 rfl ?_
  refine x_aload_n hG dX8_who_29 rfl rfl ?_
  refine x_get_8_5 hG dX8_who_30 (rfl : kd 0 = 8) hin_X8_who_X8 (List.mem_of_getElem? (i := 1) rfl) ?_
  have hk1 : kd ((M.1 0 5).toNatClampNeg) = 2 := And.left h
  refine x_cVI0 hG dX8_who_33 (fun ha => c_X2_allWorkers ha h) gX8_who_X2_allWorkers rfl ⟨rfl, rfl⟩ hy_X2_allWorkers ⟨Nat.le_of_ble_eq_true rfl, Nat.le_of_ble_eq_true rfl⟩ (kd_lt hk1 (by decide)) (fun _ => xc_2 hk1) rfl (Nat.le_of_ble_eq_true rfl) (fun z2 M3 h => ?_)
  refine x_icmp_gt (tgt := 72) hG dX8_who_36 (by decide) (fun hc4 => ?_) (fun hc4 => ?_)
  · have h := h.1 hc4
    refine x_iload_n hG dX8_who_72 rfl rfl ?_
    refine x_if_ne (tgt := 78) hG dX8_who_73 (by decide) (fun hc5 => ?_) (fun hc5 => ?_)
    · have h := h.1 hc5
      refine x_iload_n hG dX8_who_78 rfl rfl ?_
      refine x_iconst (v := (2 : Int32)) hG dX8_who_79 (by decide) ?_
      refine x_icmp_ne (tgt := 86) hG dX8_who_80 (by decide) (fun hc6 => ?_) (fun hc6 => ?_)
      · have h := h.1 hc6
        refine x_iload_n hG dX8_who_86 rfl rfl ?_
        refine x_if_ne (tgt := 95) hG dX8_who_87 (by decide) (fun hc7 => ?_) (fun hc7 => ?_)
        · have h := h.1 hc7
          refine x_iload_n hG dX8_who_95 rfl rfl ?_
          exact x_iret hG hQ dX8_who_96 rfl h
        · have h := h.2 hc7
          refine x_bipush (v := (-9 : Int32)) hG dX8_who_90 (by decide) ?_
          refine x_goto (tgt := 96) hG dX8_who_92 (by decide) ?_
          exact x_iret hG hQ dX8_who_96 rfl h
      · have h := h.2 hc6
        refine x_iload hG dX8_who_83 rfl ?_
        exact x_iret hG hQ dX8_who_85 rfl h
    · have h := h.2 hc5
      refine x_iload_n hG dX8_who_76 rfl rfl ?_
      exact x_iret hG hQ dX8_who_77 rfl h
  · have h := h.2 hc4
    refine x_aload_n hG dX8_who_39 rfl rfl ?_
    refine x_iload hG dX8_who_40 rfl ?_
    refine x_cVI1 hG dX8_who_42 (fun ha => c_X8_fitsHearsay ha h) gX8_who_X8_fitsHearsay rfl ⟨rfl, rfl⟩ hy_X8_fitsHearsay ⟨Nat.le_of_ble_eq_true rfl, Nat.le_of_ble_eq_true rfl⟩ (kd_lt (rfl : kd 0 = 8) (by decide)) (fun _ => xc_8 (rfl : kd 0 = 8)) rfl (Nat.le_of_ble_eq_true rfl) (fun z8 M9 h => ?_)
    refine x_if_ne (tgt := 51) hG dX8_who_45 (by decide) (fun hc10 => ?_) (fun hc10 => ?_)
    · have h := h.1 hc10
      refine x_iinc (v := _) hG dX8_who_51 rfl (x_iincE (k := 1) (by decide)) (Nat.le_of_ble_eq_true rfl) rfl ?_
      refine x_iload_n hG dX8_who_54 rfl rfl ?_
      refine x_iload hG dX8_who_55 rfl ?_
      refine x_iand hG dX8_who_57 ?_
      refine x_istore_n hG dX8_who_58 rfl (Nat.le_of_ble_eq_true rfl) rfl ?_
      refine x_iload hG dX8_who_59 rfl ?_
      refine x_iload hG dX8_who_61 rfl ?_
      refine x_ior hG dX8_who_63 ?_
      refine x_istore hG dX8_who_64 (Nat.le_of_ble_eq_true rfl) rfl ?_
      refine x_keep [true, true, true, true, true, true] rfl ?_
      exact k_X8_who_66 hG hQ hr27 _ _ _ _ _ _ h
    · have h := h.2 hc10
      refine x_goto (tgt := 66) hG dX8_who_48 (by decide) ?_
      refine x_keep [true, true, true, true, true, true] rfl ?_
      exact k_X8_who_66 hG hQ hr27 _ _ _ _ _ _ h
set_option maxRecDepth 100000 in
set_option maxHeartbeats 4000000 in
theorem c_X8_who {l : Launch} {a : Nat → Nat} {M : xMem} {p1 : Int32} {post : Int32 → xMem → Prop} (ha : xInj a) (h : w_X8_who M p1 post) : ∀ D cs sz, xMetI l yX8_who wsX8_who rm_X8_who D a cs sz M [.ref (a 0), .int p1] post := by
  intro D cs sz
  unfold w_X8_who at h
  refine x_metI (ty := .int) [some (.ref (a 0)), some (.int p1), none, none, none, none] (by decide) rfl rfl (Nat.le_of_ble_eq_true rfl) rfl rfl ha D cs sz rfl (fun G e1 e2 hG hQ => ?_)
  subst e1
  subst e2
  refine x_iload_n hG dX8_who_0 rfl rfl ?_
  refine x_iconst (v := (0 : Int32)) hG dX8_who_1 (by decide) ?_
  refine x_iconst (v := (2 : Int32)) hG dX8_who_2 (by decide) ?_
  refine x_cSI3 hG dX8_who_3 (fun ha => c_X8_within ha h) gX8_who_X8_within rfl ⟨rfl, rfl⟩ hy_X8_within ⟨Nat.le_of_ble_eq_true rfl, Nat.le_of_ble_eq_true rfl⟩ (Nat.le_of_ble_eq_true rfl) (fun z1 M2 h => ?_)
  refine x_if_ne (tgt := 11) hG dX8_who_6 (by decide) (fun hc3 => ?_) (fun hc3 => ?_)
  · have h := h.1 hc3
    refine x_iconst (v := (0 : Int32)) hG dX8_who_11 (by decide) ?_
    refine x_istore_n hG dX8_who_12 rfl (Nat.le_of_ble_eq_true rfl) rfl ?_
    refine x_aload_n hG dX8_who_13 rfl rfl ?_
    refine x_get_8_5 hG dX8_who_14 (rfl : kd 0 = 8) hin_X8_who_X8 (List.mem_of_getElem? (i := 1) rfl) ?_
    have hk4 : kd ((M2.1 0 5).toNatClampNeg) = 2 := And.left h
    refine x_cVI0 hG dX8_who_17 (fun ha => c_X2_allWorkers ha h) gX8_who_X2_allWorkers rfl ⟨rfl, rfl⟩ hy_X2_allWorkers ⟨Nat.le_of_ble_eq_true rfl, Nat.le_of_ble_eq_true rfl⟩ (kd_lt hk4 (by decide)) (fun _ => xc_2 hk4) rfl (Nat.le_of_ble_eq_true rfl) (fun z5 M6 h => ?_)
    refine x_istore_n hG dX8_who_20 rfl (Nat.le_of_ble_eq_true rfl) rfl ?_
    refine x_iconst (v := (0 : Int32)) hG dX8_who_21 (by decide) ?_
    refine x_istore hG dX8_who_22 (Nat.le_of_ble_eq_true rfl) rfl ?_
    refine x_iconst (v := (0 : Int32)) hG dX8_who_24 (by decide) ?_
    refine x_istore hG dX8_who_25 (Nat.le_of_ble_eq_true rfl) rfl ?_
    refine x_keep [true, true, true, true, true, true] rfl ?_
    exact k_X8_who_27 hG hQ _ _ _ _ _ _ h
  · have h := h.2 hc3
    refine x_iconst (v := (-1 : Int32)) hG dX8_who_9 (by decide) ?_
    exact x_iret hG hQ dX8_who_10 rfl h
abbrev rm_X8_price : Room := { frames := 1, cells := 0, slots := 0, locals := 24 }
theorem hy_X8_price : yX8_price.cls = RX8 ∧ yX8_price.cls ≠ "java/lang/invoke/MethodHandle" ∧ yX8_price.cls ≠ "java/lang/invoke/VarHandle" ∧ (parseMethodDescriptor yX8_price.desc).map (fun d => d.parameters.length) = some 2 := by decide +kernel
theorem hin_X8_price_X8 : ∀ w ∈ wsX80, w ∈ wsX8_price := fun _ h => List.mem_cons_of_mem _ (List.mem_append_left _ (List.mem_append_right _ h))
set_option maxRecDepth 100000 in
set_option maxHeartbeats 4000000 in
theorem k_X8_price_64 {G : xG} {post : Int32 → xMem → Prop} (hG : xOk G cX8_price RX8 wsX8_price rm_X8_price) (hQ : xRetI G post .int) {r22 : xMem → Int32 → Int32 → Int32 → Int32 → Prop} (hr22 : ∀ (M : xMem) (p1 : Int32) (p2 : Int32) (p3 : Int32) (p4 : Int32), r22 M p1 p2 p3 p4 → xW G M [some (.ref (xa G 0)), some (.int p1), some (.int p2), some (.int p3), some (.int p4)] [] 22) : ∀ (M : xMem) (p1 : Int32) (p2 : Int32) (p3 : Int32) (p4 : Int32), b_X8_price_64 post r22 M p1 p2 p3 p4 → xW G M [some (.ref (xa G 0)), some (.int p1), some (.int p2), some (.int p3), some (.int p4)] [] 64 := by
  intro M p1 p2 p3 p4 h
  unfold b_X8_price_64 at h
  refine x_iinc (v := _) hG dX8_price_64 rfl (x_iincE (k := 1) (by decide)) (Nat.le_of_ble_eq_true rfl) rfl ?_
  refine x_goto (tgt := 22) hG dX8_price_67 (by decide) ?_
  refine x_keep [true, true, true, true, true] rfl ?_
  exact hr22 _ _ _ _ _ h
set_option maxRecDepth 100000 in
set_option maxHeartbeats 4000000 in
theorem k_X8_price_22 {G : xG} {post : Int32 → xMem → Prop} (hG : xOk G cX8_price RX8 wsX8_price rm_X8_price) (hQ : xRetI G post .int) : ∀ (M : xMem) (p1 : Int32) (p2 : Int32) (p3 : Int32) (p4 : Int32), xlp5 (b_X8_price_22 post) M p1 p2 p3 p4 → xW G M [some (.ref (xa G 0)), some (.int p1), some (.int p2), some (.int p3), some (.int p4)] [] 22 := by
  refine xlp5_W (W := fun M p1 p2 p3 p4 => xW G M [some (.ref (xa G 0)), some (.int p1), some (.int p2), some (.int p3), some (.int p4)] [] 22) (fun r22 hr22 => ?_)
  intro M p1 p2 p3 p4 h
  unfold b_X8_price_22 at h
  refine x_iload hG dX8_price_22 rfl ?_
  refine x_bipush (v := (99 : Int32)) hG dX8_price_24 (by decide) ?_
  refine x_icmp_gt (tgt := 70) hG dX8_price_26 (by decide) (fun hc1 => ?_) (fun hc1 => ?_)
  · have h := h.1 hc1
    refine x_iload_n hG dX8_price_70 rfl rfl ?_
    exact x_iret hG hQ dX8_price_71 rfl h
  · have h := h.2 hc1
    refine x_aload_n hG dX8_price_29 rfl rfl ?_
    refine x_get_8_5 hG dX8_price_30 (rfl : kd 0 = 8) hin_X8_price_X8 (List.mem_of_getElem? (i := 1) rfl) ?_
    refine x_iload_n hG dX8_price_33 rfl rfl ?_
    refine x_iload hG dX8_price_34 rfl ?_
    have hk2 : kd ((M.1 0 5).toNatClampNeg) = 2 := And.left h
    refine x_cVI2 hG dX8_price_36 (fun ha => c_X2_sellers ha h) gX8_price_X2_sellers rfl ⟨rfl, rfl⟩ hy_X2_sellers ⟨Nat.le_of_ble_eq_true rfl, Nat.le_of_ble_eq_true rfl⟩ (kd_lt hk2 (by decide)) (fun _ => xc_2 hk2) rfl (Nat.le_of_ble_eq_true rfl) (fun z3 M4 h => ?_)
    refine x_aload_n hG dX8_price_39 rfl rfl ?_
    refine x_get_8_5 hG dX8_price_40 (rfl : kd 0 = 8) hin_X8_price_X8 (List.mem_of_getElem? (i := 1) rfl) ?_
    refine x_iload hG dX8_price_43 rfl ?_
    have hk5 : kd ((M4.1 0 5).toNatClampNeg) = 2 := And.left h
    refine x_cVI1 hG dX8_price_45 (fun ha => c_X2_buyers ha h) gX8_price_X2_buyers rfl ⟨rfl, rfl⟩ hy_X2_buyers ⟨Nat.le_of_ble_eq_true rfl, Nat.le_of_ble_eq_true rfl⟩ (kd_lt hk5 (by decide)) (fun _ => xc_2 hk5) rfl (Nat.le_of_ble_eq_true rfl) (fun z6 M7 h => ?_)
    refine x_icmp_eq (tgt := 54) hG dX8_price_48 (by decide) (fun hc8 => ?_) (fun hc8 => ?_)
    · have h := h.1 hc8
      refine x_iload_n hG dX8_price_54 rfl rfl ?_
      refine x_if_ne (tgt := 61) hG dX8_price_55 (by decide) (fun hc9 => ?_) (fun hc9 => ?_)
      · have h := h.1 hc9
        refine x_iload hG dX8_price_61 rfl ?_
        refine x_istore_n hG dX8_price_63 rfl (Nat.le_of_ble_eq_true rfl) rfl ?_
        refine x_keep [true, true, true, true, true] rfl ?_
        exact k_X8_price_64 hG hQ hr22 _ _ _ _ _ h
      · have h := h.2 hc9
        refine x_iload hG dX8_price_58 rfl ?_
        exact x_iret hG hQ dX8_price_60 rfl h
    · have h := h.2 hc8
      refine x_goto (tgt := 64) hG dX8_price_51 (by decide) ?_
      refine x_keep [true, true, true, true, true] rfl ?_
      exact k_X8_price_64 hG hQ hr22 _ _ _ _ _ h
set_option maxRecDepth 100000 in
set_option maxHeartbeats 4000000 in
theorem c_X8_price {l : Launch} {a : Nat → Nat} {M : xMem} {p1 : Int32} {p2 : Int32} {post : Int32 → xMem → Prop} (ha : xInj a) (h : w_X8_price M p1 p2 post) : ∀ D cs sz, xMetI l yX8_price wsX8_price rm_X8_price D a cs sz M [.ref (a 0), .int p1, .int p2] post := by
  intro D cs sz
  unfold w_X8_price at h
  refine x_metI (ty := .int) [some (.ref (a 0)), some (.int p1), some (.int p2), none, none] (by decide) rfl rfl (Nat.le_of_ble_eq_true rfl) rfl rfl ha D cs sz rfl (fun G e1 e2 hG hQ => ?_)
  subst e1
  subst e2
  refine x_iload_n hG dX8_price_0 rfl rfl ?_
  refine x_cSI1 hG dX8_price_1 (fun ha => c_X8_isHour ha h) gX8_price_X8_isHour rfl ⟨rfl, rfl⟩ hy_X8_isHour ⟨Nat.le_of_ble_eq_true rfl, Nat.le_of_ble_eq_true rfl⟩ (Nat.le_of_ble_eq_true rfl) (fun z1 M2 h => ?_)
  refine x_if_eq (tgt := 14) hG dX8_price_4 (by decide) (fun hc3 => ?_) (fun hc3 => ?_)
  · have h := h.1 hc3
    refine x_iconst (v := (-1 : Int32)) hG dX8_price_14 (by decide) ?_
    exact x_iret hG hQ dX8_price_15 rfl h
  · have h := h.2 hc3
    refine x_iload_n hG dX8_price_7 rfl rfl ?_
    refine x_cSI1 hG dX8_price_8 (fun ha => c_X8_isBit ha h) gX8_price_X8_isBit rfl ⟨rfl, rfl⟩ hy_X8_isBit ⟨Nat.le_of_ble_eq_true rfl, Nat.le_of_ble_eq_true rfl⟩ (Nat.le_of_ble_eq_true rfl) (fun z4 M5 h => ?_)
    refine x_if_ne (tgt := 16) hG dX8_price_11 (by decide) (fun hc6 => ?_) (fun hc6 => ?_)
    · have h := h.1 hc6
      refine x_bipush (v := (-9 : Int32)) hG dX8_price_16 (by decide) ?_
      refine x_istore_n hG dX8_price_18 rfl (Nat.le_of_ble_eq_true rfl) rfl ?_
      refine x_iconst (v := (0 : Int32)) hG dX8_price_19 (by decide) ?_
      refine x_istore hG dX8_price_20 (Nat.le_of_ble_eq_true rfl) rfl ?_
      refine x_keep [true, true, true, true, true] rfl ?_
      exact k_X8_price_22 hG hQ _ _ _ _ _ h
    · have h := h.2 hc6
      refine x_iconst (v := (-1 : Int32)) hG dX8_price_14 (by decide) ?_
      exact x_iret hG hQ dX8_price_15 rfl h
abbrev rm_X8_asNoise : Room := { frames := 0, cells := 0, slots := 0, locals := 0 }
theorem hy_X8_asNoise : yX8_asNoise.cls = RX8 ∧ yX8_asNoise.cls ≠ "java/lang/invoke/MethodHandle" ∧ yX8_asNoise.cls ≠ "java/lang/invoke/VarHandle" ∧ (parseMethodDescriptor yX8_asNoise.desc).map (fun d => d.parameters.length) = some 1 := by decide +kernel
theorem hin_X8_asNoise_X2 : ∀ w ∈ wsX20, w ∈ wsX8_asNoise := fun _ h => List.mem_cons_of_mem _ (List.mem_append_right _ h)
theorem hin_X8_asNoise_X8 : ∀ w ∈ wsX80, w ∈ wsX8_asNoise := fun _ h => List.mem_cons_of_mem _ (List.mem_append_left _ (List.mem_append_right _ h))
set_option maxRecDepth 100000 in
set_option maxHeartbeats 4000000 in
theorem c_X8_asNoise {l : Launch} {a : Nat → Nat} {M : xMem} {p1 : Int32} {post : Int32 → xMem → Prop} (ha : xInj a) (h : w_X8_asNoise M p1 post) : ∀ D cs sz, xMetI l yX8_asNoise wsX8_asNoise rm_X8_asNoise D a cs sz M [.ref (a 0), .int p1] post := by
  intro D cs sz
  unfold w_X8_asNoise at h
  refine x_metI (ty := .int) [some (.ref (a 0)), some (.int p1)] (by decide) rfl rfl (Nat.le_of_ble_eq_true rfl) rfl rfl ha D cs sz rfl (fun G e1 e2 hG hQ => ?_)
  subst e1
  subst e2
  refine x_aload_n hG dX8_asNoise_0 rfl rfl ?_
  refine x_dup hG dX8_asNoise_1 rfl ?_
  refine x_get_8_7 hG dX8_asNoise_2 (rfl : kd 0 = 8) hin_X8_asNoise_X8 (List.mem_of_getElem? (i := 1) rfl) ?_
  refine x_lconst (v := (1 : Int64)) hG dX8_asNoise_5 (by decide) ?_
  refine x_ladd hG dX8_asNoise_6 ?_
  have h := h _ rfl
  refine x_put_8_7 hG dX8_asNoise_7 (rfl : kd 0 = 8) hin_X8_asNoise_X8 (List.mem_of_getElem? (i := 1) rfl) ?_
  refine x_aload_n hG dX8_asNoise_10 rfl rfl ?_
  refine x_get_8_5 hG dX8_asNoise_11 (rfl : kd 0 = 8) hin_X8_asNoise_X8 (List.mem_of_getElem? (i := 2) rfl) ?_
  obtain ⟨hk2, h⟩ := h
  refine x_get_2_5 hG dX8_asNoise_14 hk2 hin_X8_asNoise_X2 (List.mem_of_getElem? (i := 3) rfl) ?_
  refine x_iload_n hG dX8_asNoise_17 rfl rfl ?_
  obtain ⟨hi3, h⟩ := h
  refine x_aaload11 hG dX8_asNoise_18 (kf_2_5 hk2).1 (x_inE (kf_2_5 hk2).2 hi3) ?_
  refine x_iconst (v := (1 : Int32)) hG dX8_asNoise_19 (by decide) ?_
  refine x_iaload hG dX8_asNoise_20 (ke_2_5 hk2 (vp_lt hi3)).1 (x_inE (ke_2_5 hk2 (vp_lt hi3)).2 (x_inC (by decide))) ?_
  exact x_iret hG hQ dX8_asNoise_21 rfl h
abbrev rm_X8_asStruck : Room := { frames := 1, cells := 0, slots := 0, locals := 21 }
theorem hy_X8_asStruck : yX8_asStruck.cls = RX8 ∧ yX8_asStruck.cls ≠ "java/lang/invoke/MethodHandle" ∧ yX8_asStruck.cls ≠ "java/lang/invoke/VarHandle" ∧ (parseMethodDescriptor yX8_asStruck.desc).map (fun d => d.parameters.length) = some 1 := by decide +kernel
theorem hin_X8_asStruck_X2 : ∀ w ∈ wsX20, w ∈ wsX8_asStruck := fun _ h => List.mem_cons_of_mem _ (List.mem_append_right _ h)
theorem hin_X8_asStruck_X8 : ∀ w ∈ wsX80, w ∈ wsX8_asStruck := fun _ h => List.mem_cons_of_mem _ (List.mem_append_left _ (List.mem_append_right _ h))
set_option maxRecDepth 100000 in
set_option maxHeartbeats 4000000 in
theorem c_X8_asStruck {l : Launch} {a : Nat → Nat} {M : xMem} {p1 : Int32} {post : Int32 → xMem → Prop} (ha : xInj a) (h : w_X8_asStruck M p1 post) : ∀ D cs sz, xMetI l yX8_asStruck wsX8_asStruck rm_X8_asStruck D a cs sz M [.ref (a 0), .int p1] post := by
  intro D cs sz
  unfold w_X8_asStruck at h
  refine x_metI (ty := .int) [some (.ref (a 0)), some (.int p1)] (by decide) rfl rfl (Nat.le_of_ble_eq_true rfl) rfl rfl ha D cs sz rfl (fun G e1 e2 hG hQ => ?_)
  subst e1
  subst e2
  refine x_aload_n hG dX8_asStruck_0 rfl rfl ?_
  refine x_dup hG dX8_asStruck_1 rfl ?_
  refine x_get_8_7 hG dX8_asStruck_2 (rfl : kd 0 = 8) hin_X8_asStruck_X8 (List.mem_of_getElem? (i := 1) rfl) ?_
  refine x_ldc2 (v := (10 : Int64)) hG dX8_asStruck_5 (List.mem_of_getElem? (i := 2) rfl) ?_
  refine x_ladd hG dX8_asStruck_8 ?_
  have h := h _ rfl
  refine x_put_8_7 hG dX8_asStruck_9 (rfl : kd 0 = 8) hin_X8_asStruck_X8 (List.mem_of_getElem? (i := 1) rfl) ?_
  refine x_aload_n hG dX8_asStruck_12 rfl rfl ?_
  refine x_iload_n hG dX8_asStruck_13 rfl rfl ?_
  refine x_cVI1 hG dX8_asStruck_14 (fun ha => c_X8_asNoise ha h) gX8_asStruck_X8_asNoise rfl ⟨rfl, rfl⟩ hy_X8_asNoise ⟨Nat.le_of_ble_eq_true rfl, Nat.le_of_ble_eq_true rfl⟩ (kd_lt (rfl : kd 0 = 8) (by decide)) (fun _ => xc_8 (rfl : kd 0 = 8)) rfl (Nat.le_of_ble_eq_true rfl) (fun z2 M3 h => ?_)
  refine x_aload_n hG dX8_asStruck_17 rfl rfl ?_
  refine x_get_8_5 hG dX8_asStruck_18 (rfl : kd 0 = 8) hin_X8_asStruck_X8 (List.mem_of_getElem? (i := 3) rfl) ?_
  obtain ⟨hk4, h⟩ := h
  refine x_get_2_5 hG dX8_asStruck_21 hk4 hin_X8_asStruck_X2 (List.mem_of_getElem? (i := 4) rfl) ?_
  refine x_iload_n hG dX8_asStruck_24 rfl rfl ?_
  obtain ⟨hi5, h⟩ := h
  refine x_aaload11 hG dX8_asStruck_25 (kf_2_5 hk4).1 (x_inE (kf_2_5 hk4).2 hi5) ?_
  refine x_iconst (v := (3 : Int32)) hG dX8_asStruck_26 (by decide) ?_
  refine x_iaload hG dX8_asStruck_27 (ke_2_5 hk4 (vp_lt hi5)).1 (x_inE (ke_2_5 hk4 (vp_lt hi5)).2 (x_inC (by decide))) ?_
  refine x_iadd hG dX8_asStruck_28 ?_
  exact x_iret hG hQ dX8_asStruck_29 rfl h
abbrev rm_X8_asHeld : Room := { frames := 1, cells := 0, slots := 0, locals := 21 }
theorem hy_X8_asHeld : yX8_asHeld.cls = RX8 ∧ yX8_asHeld.cls ≠ "java/lang/invoke/MethodHandle" ∧ yX8_asHeld.cls ≠ "java/lang/invoke/VarHandle" ∧ (parseMethodDescriptor yX8_asHeld.desc).map (fun d => d.parameters.length) = some 1 := by decide +kernel
theorem hin_X8_asHeld_X2 : ∀ w ∈ wsX20, w ∈ wsX8_asHeld := fun _ h => List.mem_cons_of_mem _ (List.mem_append_right _ h)
theorem hin_X8_asHeld_X8 : ∀ w ∈ wsX80, w ∈ wsX8_asHeld := fun _ h => List.mem_cons_of_mem _ (List.mem_append_left _ (List.mem_append_right _ h))
set_option maxRecDepth 100000 in
set_option maxHeartbeats 4000000 in
theorem c_X8_asHeld {l : Launch} {a : Nat → Nat} {M : xMem} {p1 : Int32} {post : Int32 → xMem → Prop} (ha : xInj a) (h : w_X8_asHeld M p1 post) : ∀ D cs sz, xMetI l yX8_asHeld wsX8_asHeld rm_X8_asHeld D a cs sz M [.ref (a 0), .int p1] post := by
  intro D cs sz
  unfold w_X8_asHeld at h
  refine x_metI (ty := .int) [some (.ref (a 0)), some (.int p1)] (by decide) rfl rfl (Nat.le_of_ble_eq_true rfl) rfl rfl ha D cs sz rfl (fun G e1 e2 hG hQ => ?_)
  subst e1
  subst e2
  refine x_aload_n hG dX8_asHeld_0 rfl rfl ?_
  refine x_dup hG dX8_asHeld_1 rfl ?_
  refine x_get_8_7 hG dX8_asHeld_2 (rfl : kd 0 = 8) hin_X8_asHeld_X8 (List.mem_of_getElem? (i := 1) rfl) ?_
  refine x_ldc2 (v := (100 : Int64)) hG dX8_asHeld_5 (List.mem_of_getElem? (i := 2) rfl) ?_
  refine x_ladd hG dX8_asHeld_8 ?_
  have h := h _ rfl
  refine x_put_8_7 hG dX8_asHeld_9 (rfl : kd 0 = 8) hin_X8_asHeld_X8 (List.mem_of_getElem? (i := 1) rfl) ?_
  refine x_aload_n hG dX8_asHeld_12 rfl rfl ?_
  refine x_iload_n hG dX8_asHeld_13 rfl rfl ?_
  refine x_cVI1 hG dX8_asHeld_14 (fun ha => c_X8_asNoise ha h) gX8_asHeld_X8_asNoise rfl ⟨rfl, rfl⟩ hy_X8_asNoise ⟨Nat.le_of_ble_eq_true rfl, Nat.le_of_ble_eq_true rfl⟩ (kd_lt (rfl : kd 0 = 8) (by decide)) (fun _ => xc_8 (rfl : kd 0 = 8)) rfl (Nat.le_of_ble_eq_true rfl) (fun z2 M3 h => ?_)
  refine x_aload_n hG dX8_asHeld_17 rfl rfl ?_
  refine x_get_8_5 hG dX8_asHeld_18 (rfl : kd 0 = 8) hin_X8_asHeld_X8 (List.mem_of_getElem? (i := 3) rfl) ?_
  obtain ⟨hk4, h⟩ := h
  refine x_get_2_5 hG dX8_asHeld_21 hk4 hin_X8_asHeld_X2 (List.mem_of_getElem? (i := 4) rfl) ?_
  refine x_iload_n hG dX8_asHeld_24 rfl rfl ?_
  obtain ⟨hi5, h⟩ := h
  refine x_aaload11 hG dX8_asHeld_25 (kf_2_5 hk4).1 (x_inE (kf_2_5 hk4).2 hi5) ?_
  refine x_iconst (v := (0 : Int32)) hG dX8_asHeld_26 (by decide) ?_
  refine x_iaload hG dX8_asHeld_27 (ke_2_5 hk4 (vp_lt hi5)).1 (x_inE (ke_2_5 hk4 (vp_lt hi5)).2 (x_inC (by decide))) ?_
  refine x_iadd hG dX8_asHeld_28 ?_
  exact x_iret hG hQ dX8_asHeld_29 rfl h
abbrev rm_X8_asBlown : Room := { frames := 2, cells := 0, slots := 0, locals := 42 }
theorem hy_X8_asBlown : yX8_asBlown.cls = RX8 ∧ yX8_asBlown.cls ≠ "java/lang/invoke/MethodHandle" ∧ yX8_asBlown.cls ≠ "java/lang/invoke/VarHandle" ∧ (parseMethodDescriptor yX8_asBlown.desc).map (fun d => d.parameters.length) = some 1 := by decide +kernel
theorem hin_X8_asBlown_X8 : ∀ w ∈ wsX80, w ∈ wsX8_asBlown := fun _ h => List.mem_cons_of_mem _ (List.mem_append_left _ (List.mem_append_right _ h))
set_option maxRecDepth 100000 in
set_option maxHeartbeats 4000000 in
theorem c_X8_asBlown {l : Launch} {a : Nat → Nat} {M : xMem} {p1 : Int32} {post : Int32 → xMem → Prop} (ha : xInj a) (h : w_X8_asBlown M p1 post) : ∀ D cs sz, xMetI l yX8_asBlown wsX8_asBlown rm_X8_asBlown D a cs sz M [.ref (a 0), .int p1] post := by
  intro D cs sz
  unfold w_X8_asBlown at h
  refine x_metI (ty := .int) [some (.ref (a 0)), some (.int p1)] (by decide) rfl rfl (Nat.le_of_ble_eq_true rfl) rfl rfl ha D cs sz rfl (fun G e1 e2 hG hQ => ?_)
  subst e1
  subst e2
  refine x_aload_n hG dX8_asBlown_0 rfl rfl ?_
  refine x_dup hG dX8_asBlown_1 rfl ?_
  refine x_get_8_7 hG dX8_asBlown_2 (rfl : kd 0 = 8) hin_X8_asBlown_X8 (List.mem_of_getElem? (i := 1) rfl) ?_
  refine x_ldc2 (v := (1000 : Int64)) hG dX8_asBlown_5 (List.mem_of_getElem? (i := 2) rfl) ?_
  refine x_ladd hG dX8_asBlown_8 ?_
  have h := h _ rfl
  refine x_put_8_7 hG dX8_asBlown_9 (rfl : kd 0 = 8) hin_X8_asBlown_X8 (List.mem_of_getElem? (i := 1) rfl) ?_
  refine x_iconst (v := (2 : Int32)) hG dX8_asBlown_12 (by decide) ?_
  refine x_aload_n hG dX8_asBlown_13 rfl rfl ?_
  refine x_iload_n hG dX8_asBlown_14 rfl rfl ?_
  refine x_cVI1 hG dX8_asBlown_15 (fun ha => c_X8_asHeld ha h) gX8_asBlown_X8_asHeld rfl ⟨rfl, rfl⟩ hy_X8_asHeld ⟨Nat.le_of_ble_eq_true rfl, Nat.le_of_ble_eq_true rfl⟩ (kd_lt (rfl : kd 0 = 8) (by decide)) (fun _ => xc_8 (rfl : kd 0 = 8)) rfl (Nat.le_of_ble_eq_true rfl) (fun z2 M3 h => ?_)
  refine x_imul hG dX8_asBlown_18 ?_
  exact x_iret hG hQ dX8_asBlown_19 rfl h
abbrev rm_X8_asDrummed : Room := { frames := 2, cells := 0, slots := 0, locals := 42 }
theorem hy_X8_asDrummed : yX8_asDrummed.cls = RX8 ∧ yX8_asDrummed.cls ≠ "java/lang/invoke/MethodHandle" ∧ yX8_asDrummed.cls ≠ "java/lang/invoke/VarHandle" ∧ (parseMethodDescriptor yX8_asDrummed.desc).map (fun d => d.parameters.length) = some 1 := by decide +kernel
theorem hin_X8_asDrummed_X6 : ∀ w ∈ wsX60, w ∈ wsX8_asDrummed := fun _ h => List.mem_cons_of_mem _ (List.mem_append_left _ (List.mem_append_right _ h))
theorem hin_X8_asDrummed_X8 : ∀ w ∈ wsX80, w ∈ wsX8_asDrummed := fun _ h => List.mem_cons_of_mem _ (List.mem_append_left _ (List.mem_append_left _ (List.mem_append_right _ h)))
set_option maxRecDepth 100000 in
set_option maxHeartbeats 4000000 in
theorem c_X8_asDrummed {l : Launch} {a : Nat → Nat} {M : xMem} {p1 : Int32} {post : Int32 → xMem → Prop} (ha : xInj a) (h : w_X8_asDrummed M p1 post) : ∀ D cs sz, xMetI l yX8_asDrummed wsX8_asDrummed rm_X8_asDrummed D a cs sz M [.ref (a 0), .int p1] post := by
  intro D cs sz
  unfold w_X8_asDrummed at h
  refine x_metI (ty := .int) [some (.ref (a 0)), some (.int p1)] (by decide) rfl rfl (Nat.le_of_ble_eq_true rfl) rfl rfl ha D cs sz rfl (fun G e1 e2 hG hQ => ?_)
  subst e1
  subst e2
  refine x_aload_n hG dX8_asDrummed_0 rfl rfl ?_
  refine x_dup hG dX8_asDrummed_1 rfl ?_
  refine x_get_8_7 hG dX8_asDrummed_2 (rfl : kd 0 = 8) hin_X8_asDrummed_X8 (List.mem_of_getElem? (i := 1) rfl) ?_
  refine x_ldc2 (v := (10000 : Int64)) hG dX8_asDrummed_5 (List.mem_of_getElem? (i := 2) rfl) ?_
  refine x_ladd hG dX8_asDrummed_8 ?_
  have h := h _ rfl
  refine x_put_8_7 hG dX8_asDrummed_9 (rfl : kd 0 = 8) hin_X8_asDrummed_X8 (List.mem_of_getElem? (i := 1) rfl) ?_
  refine x_aload_n hG dX8_asDrummed_12 rfl rfl ?_
  refine x_iload_n hG dX8_asDrummed_13 rfl rfl ?_
  refine x_cVI1 hG dX8_asDrummed_14 (fun ha => c_X8_asStruck ha h) gX8_asDrummed_X8_asStruck rfl ⟨rfl, rfl⟩ hy_X8_asStruck ⟨Nat.le_of_ble_eq_true rfl, Nat.le_of_ble_eq_true rfl⟩ (kd_lt (rfl : kd 0 = 8) (by decide)) (fun _ => xc_8 (rfl : kd 0 = 8)) rfl (Nat.le_of_ble_eq_true rfl) (fun z2 M3 h => ?_)
  refine x_aload_n hG dX8_asDrummed_17 rfl rfl ?_
  refine x_get_8_1 hG dX8_asDrummed_18 (rfl : kd 0 = 8) hin_X8_asDrummed_X8 (List.mem_of_getElem? (i := 3) rfl) ?_
  refine x_get_6_2 hG dX8_asDrummed_21 (kf_8_1 (rfl : kd 0 = 8)).1 hin_X8_asDrummed_X6 (List.mem_of_getElem? (i := 4) rfl) ?_
  refine x_isub hG dX8_asDrummed_24 ?_
  exact x_iret hG hQ dX8_asDrummed_25 rfl h
abbrev rm_X8_asMany : Room := { frames := 1, cells := 0, slots := 0, locals := 21 }
theorem hy_X8_asMany : yX8_asMany.cls = RX8 ∧ yX8_asMany.cls ≠ "java/lang/invoke/MethodHandle" ∧ yX8_asMany.cls ≠ "java/lang/invoke/VarHandle" ∧ (parseMethodDescriptor yX8_asMany.desc).map (fun d => d.parameters.length) = some 1 := by decide +kernel
theorem hin_X8_asMany_X2 : ∀ w ∈ wsX20, w ∈ wsX8_asMany := fun _ h => List.mem_cons_of_mem _ (List.mem_append_right _ h)
theorem hin_X8_asMany_X8 : ∀ w ∈ wsX80, w ∈ wsX8_asMany := fun _ h => List.mem_cons_of_mem _ (List.mem_append_left _ (List.mem_append_right _ h))
set_option maxRecDepth 100000 in
set_option maxHeartbeats 4000000 in
theorem c_X8_asMany {l : Launch} {a : Nat → Nat} {M : xMem} {p1 : Int32} {post : Int32 → xMem → Prop} (ha : xInj a) (h : w_X8_asMany M p1 post) : ∀ D cs sz, xMetI l yX8_asMany wsX8_asMany rm_X8_asMany D a cs sz M [.ref (a 0), .int p1] post := by
  intro D cs sz
  unfold w_X8_asMany at h
  refine x_metI (ty := .int) [some (.ref (a 0)), some (.int p1)] (by decide) rfl rfl (Nat.le_of_ble_eq_true rfl) rfl rfl ha D cs sz rfl (fun G e1 e2 hG hQ => ?_)
  subst e1
  subst e2
  refine x_aload_n hG dX8_asMany_0 rfl rfl ?_
  refine x_dup hG dX8_asMany_1 rfl ?_
  refine x_get_8_7 hG dX8_asMany_2 (rfl : kd 0 = 8) hin_X8_asMany_X8 (List.mem_of_getElem? (i := 1) rfl) ?_
  refine x_ldc2 (v := (100000 : Int64)) hG dX8_asMany_5 (List.mem_of_getElem? (i := 2) rfl) ?_
  refine x_ladd hG dX8_asMany_8 ?_
  have h := h _ rfl
  refine x_put_8_7 hG dX8_asMany_9 (rfl : kd 0 = 8) hin_X8_asMany_X8 (List.mem_of_getElem? (i := 1) rfl) ?_
  refine x_aload_n hG dX8_asMany_12 rfl rfl ?_
  refine x_iload_n hG dX8_asMany_13 rfl rfl ?_
  refine x_cVI1 hG dX8_asMany_14 (fun ha => c_X8_asNoise ha h) gX8_asMany_X8_asNoise rfl ⟨rfl, rfl⟩ hy_X8_asNoise ⟨Nat.le_of_ble_eq_true rfl, Nat.le_of_ble_eq_true rfl⟩ (kd_lt (rfl : kd 0 = 8) (by decide)) (fun _ => xc_8 (rfl : kd 0 = 8)) rfl (Nat.le_of_ble_eq_true rfl) (fun z2 M3 h => ?_)
  refine x_aload_n hG dX8_asMany_17 rfl rfl ?_
  refine x_get_8_5 hG dX8_asMany_18 (rfl : kd 0 = 8) hin_X8_asMany_X8 (List.mem_of_getElem? (i := 3) rfl) ?_
  obtain ⟨hk4, h⟩ := h
  refine x_get_2_5 hG dX8_asMany_21 hk4 hin_X8_asMany_X2 (List.mem_of_getElem? (i := 4) rfl) ?_
  refine x_iload_n hG dX8_asMany_24 rfl rfl ?_
  obtain ⟨hi5, h⟩ := h
  refine x_aaload11 hG dX8_asMany_25 (kf_2_5 hk4).1 (x_inE (kf_2_5 hk4).2 hi5) ?_
  refine x_iconst (v := (2 : Int32)) hG dX8_asMany_26 (by decide) ?_
  refine x_iaload hG dX8_asMany_27 (ke_2_5 hk4 (vp_lt hi5)).1 (x_inE (ke_2_5 hk4 (vp_lt hi5)).2 (x_inC (by decide))) ?_
  refine x_iadd hG dX8_asMany_28 ?_
  exact x_iret hG hQ dX8_asMany_29 rfl h
abbrev rm_X8_rate : Room := { frames := 3, cells := 0, slots := 0, locals := 63 }
theorem hy_X8_rate : yX8_rate.cls = RX8 ∧ yX8_rate.cls ≠ "java/lang/invoke/MethodHandle" ∧ yX8_rate.cls ≠ "java/lang/invoke/VarHandle" ∧ (parseMethodDescriptor yX8_rate.desc).map (fun d => d.parameters.length) = some 2 := by decide +kernel
theorem hin_X8_rate_X8 : ∀ w ∈ wsX80, w ∈ wsX8_rate := fun _ h => List.mem_cons_of_mem _ (List.mem_append_left _ (List.mem_append_left _ (List.mem_append_right _ h)))
set_option maxRecDepth 100000 in
set_option maxHeartbeats 4000000 in
theorem c_X8_rate {l : Launch} {a : Nat → Nat} {M : xMem} {p1 : Int32} {p2 : Int32} {post : Int32 → xMem → Prop} (ha : xInj a) (h : w_X8_rate M p1 p2 post) : ∀ D cs sz, xMetI l yX8_rate wsX8_rate rm_X8_rate D a cs sz M [.ref (a 0), .int p1, .int p2] post := by
  intro D cs sz
  unfold w_X8_rate at h
  refine x_metI (ty := .int) [some (.ref (a 0)), some (.int p1), some (.int p2)] (by decide) rfl rfl (Nat.le_of_ble_eq_true rfl) rfl rfl ha D cs sz rfl (fun G e1 e2 hG hQ => ?_)
  subst e1
  subst e2
  refine x_aload_n hG dX8_rate_0 rfl rfl ?_
  refine x_get_8_5 hG dX8_rate_1 (rfl : kd 0 = 8) hin_X8_rate_X8 (List.mem_of_getElem? (i := 1) rfl) ?_
  refine x_iload_n hG dX8_rate_4 rfl rfl ?_
  have hk1 : kd ((M.1 0 5).toNatClampNeg) = 2 := And.left h
  refine x_cVI1 hG dX8_rate_5 (fun ha => c_X2_isWorker ha h) gX8_rate_X2_isWorker rfl ⟨rfl, rfl⟩ hy_X2_isWorker ⟨Nat.le_of_ble_eq_true rfl, Nat.le_of_ble_eq_true rfl⟩ (kd_lt hk1 (by decide)) (fun _ => xc_2 hk1) rfl (Nat.le_of_ble_eq_true rfl) (fun z2 M3 h => ?_)
  refine x_if_ne (tgt := 14) hG dX8_rate_8 (by decide) (fun hc4 => ?_) (fun hc4 => ?_)
  · have h := h.1 hc4
    refine x_iload_n hG dX8_rate_14 rfl rfl ?_
    by_cases hc5 : p1 = 0
    · have h := h.1 hc5
      refine x_tsIn (tgt := 52) hG dX8_rate_15 0 (by rw [hc5]; decide) rfl rfl (by decide) ?_
      refine x_aload_n hG dX8_rate_52 rfl rfl ?_
      refine x_iload_n hG dX8_rate_53 rfl rfl ?_
      refine x_cVI1 hG dX8_rate_54 (fun ha => c_X8_asNoise ha h) gX8_rate_X8_asNoise rfl ⟨rfl, rfl⟩ hy_X8_asNoise ⟨Nat.le_of_ble_eq_true rfl, Nat.le_of_ble_eq_true rfl⟩ (kd_lt (rfl : kd 0 = 8) (by decide)) (fun _ => xc_8 (rfl : kd 0 = 8)) rfl (Nat.le_of_ble_eq_true rfl) (fun z6 M7 h => ?_)
      exact x_iret hG hQ dX8_rate_57 rfl h
    have h := h.2
    by_cases hc8 : p1 = 1
    · have h := h.1 hc8
      refine x_tsIn (tgt := 58) hG dX8_rate_15 1 (by rw [hc8]; decide) rfl rfl (by decide) ?_
      refine x_aload_n hG dX8_rate_58 rfl rfl ?_
      refine x_iload_n hG dX8_rate_59 rfl rfl ?_
      refine x_cVI1 hG dX8_rate_60 (fun ha => c_X8_asStruck ha h) gX8_rate_X8_asStruck rfl ⟨rfl, rfl⟩ hy_X8_asStruck ⟨Nat.le_of_ble_eq_true rfl, Nat.le_of_ble_eq_true rfl⟩ (kd_lt (rfl : kd 0 = 8) (by decide)) (fun _ => xc_8 (rfl : kd 0 = 8)) rfl (Nat.le_of_ble_eq_true rfl) (fun z9 M10 h => ?_)
      exact x_iret hG hQ dX8_rate_63 rfl h
    have h := h.2
    by_cases hc11 : p1 = 2
    · have h := h.1 hc11
      refine x_tsIn (tgt := 64) hG dX8_rate_15 2 (by rw [hc11]; decide) rfl rfl (by decide) ?_
      refine x_aload_n hG dX8_rate_64 rfl rfl ?_
      refine x_iload_n hG dX8_rate_65 rfl rfl ?_
      refine x_cVI1 hG dX8_rate_66 (fun ha => c_X8_asHeld ha h) gX8_rate_X8_asHeld rfl ⟨rfl, rfl⟩ hy_X8_asHeld ⟨Nat.le_of_ble_eq_true rfl, Nat.le_of_ble_eq_true rfl⟩ (kd_lt (rfl : kd 0 = 8) (by decide)) (fun _ => xc_8 (rfl : kd 0 = 8)) rfl (Nat.le_of_ble_eq_true rfl) (fun z12 M13 h => ?_)
      exact x_iret hG hQ dX8_rate_69 rfl h
    have h := h.2
    by_cases hc14 : p1 = 3
    · have h := h.1 hc14
      refine x_tsIn (tgt := 70) hG dX8_rate_15 3 (by rw [hc14]; decide) rfl rfl (by decide) ?_
      refine x_aload_n hG dX8_rate_70 rfl rfl ?_
      refine x_iload_n hG dX8_rate_71 rfl rfl ?_
      refine x_cVI1 hG dX8_rate_72 (fun ha => c_X8_asBlown ha h) gX8_rate_X8_asBlown rfl ⟨rfl, rfl⟩ hy_X8_asBlown ⟨Nat.le_of_ble_eq_true rfl, Nat.le_of_ble_eq_true rfl⟩ (kd_lt (rfl : kd 0 = 8) (by decide)) (fun _ => xc_8 (rfl : kd 0 = 8)) rfl (Nat.le_of_ble_eq_true rfl) (fun z15 M16 h => ?_)
      exact x_iret hG hQ dX8_rate_75 rfl h
    have h := h.2
    by_cases hc17 : p1 = 4
    · have h := h.1 hc17
      refine x_tsIn (tgt := 76) hG dX8_rate_15 4 (by rw [hc17]; decide) rfl rfl (by decide) ?_
      refine x_aload_n hG dX8_rate_76 rfl rfl ?_
      refine x_iload_n hG dX8_rate_77 rfl rfl ?_
      refine x_cVI1 hG dX8_rate_78 (fun ha => c_X8_asDrummed ha h) gX8_rate_X8_asDrummed rfl ⟨rfl, rfl⟩ hy_X8_asDrummed ⟨Nat.le_of_ble_eq_true rfl, Nat.le_of_ble_eq_true rfl⟩ (kd_lt (rfl : kd 0 = 8) (by decide)) (fun _ => xc_8 (rfl : kd 0 = 8)) rfl (Nat.le_of_ble_eq_true rfl) (fun z18 M19 h => ?_)
      exact x_iret hG hQ dX8_rate_81 rfl h
    have h := h.2
    by_cases hc20 : p1 = 5
    · have h := h.1 hc20
      refine x_tsIn (tgt := 82) hG dX8_rate_15 5 (by rw [hc20]; decide) rfl rfl (by decide) ?_
      refine x_aload_n hG dX8_rate_82 rfl rfl ?_
      refine x_iload_n hG dX8_rate_83 rfl rfl ?_
      refine x_cVI1 hG dX8_rate_84 (fun ha => c_X8_asMany ha h) gX8_rate_X8_asMany rfl ⟨rfl, rfl⟩ hy_X8_asMany ⟨Nat.le_of_ble_eq_true rfl, Nat.le_of_ble_eq_true rfl⟩ (kd_lt (rfl : kd 0 = 8) (by decide)) (fun _ => xc_8 (rfl : kd 0 = 8)) rfl (Nat.le_of_ble_eq_true rfl) (fun z21 M22 h => ?_)
      exact x_iret hG hQ dX8_rate_87 rfl h
    have h := h.2
    have h := h hc5 hc8 hc11 hc14 hc17 hc20
    have e0 : p1.toInt ≠ 0 := fun q => hc5 (Int32.toInt_inj.mp (q.trans (by decide)))
    have e1 : p1.toInt ≠ 1 := fun q => hc8 (Int32.toInt_inj.mp (q.trans (by decide)))
    have e2 : p1.toInt ≠ 2 := fun q => hc11 (Int32.toInt_inj.mp (q.trans (by decide)))
    have e3 : p1.toInt ≠ 3 := fun q => hc14 (Int32.toInt_inj.mp (q.trans (by decide)))
    have e4 : p1.toInt ≠ 4 := fun q => hc17 (Int32.toInt_inj.mp (q.trans (by decide)))
    have e5 : p1.toInt ≠ 5 := fun q => hc20 (Int32.toInt_inj.mp (q.trans (by decide)))
    refine x_tsOut (tgt := 88) hG dX8_rate_15 (by omega) (by decide) ?_
    refine x_ldc (v := (-1000000 : Int32)) hG dX8_rate_88 (List.mem_of_getElem? (i := 2) rfl) ?_
    exact x_iret hG hQ dX8_rate_90 rfl h
  · have h := h.2 hc4
    refine x_ldc (v := (-1000000 : Int32)) hG dX8_rate_11 (List.mem_of_getElem? (i := 2) rfl) ?_
    exact x_iret hG hQ dX8_rate_13 rfl h
abbrev rm_X8_keep : Room := { frames := 2, cells := 0, slots := 0, locals := 81 }
theorem hy_X8_keep : yX8_keep.cls = RX8 ∧ yX8_keep.cls ≠ "java/lang/invoke/MethodHandle" ∧ yX8_keep.cls ≠ "java/lang/invoke/VarHandle" ∧ (parseMethodDescriptor yX8_keep.desc).map (fun d => d.parameters.length) = some 1 := by decide +kernel
theorem hin_X8_keep_X1 : ∀ w ∈ wsX10, w ∈ wsX8_keep := fun _ h => List.mem_cons_of_mem _ (List.mem_append_left _ (List.mem_append_right _ h))
theorem hin_X8_keep_X2 : ∀ w ∈ wsX20, w ∈ wsX8_keep := fun _ h => List.mem_cons_of_mem _ (List.mem_append_left _ (List.mem_append_left _ (List.mem_append_right _ h)))
theorem hin_X8_keep_X3 : ∀ w ∈ wsX30, w ∈ wsX8_keep := fun _ h => List.mem_cons_of_mem _ (List.mem_append_left _ (List.mem_append_left _ (List.mem_append_left _ (List.mem_append_right _ h))))
theorem hin_X8_keep_X8 : ∀ w ∈ wsX80, w ∈ wsX8_keep := fun _ h => List.mem_cons_of_mem _ (List.mem_append_left _ (List.mem_append_left _ (List.mem_append_left _ (List.mem_append_left _ (List.mem_append_right _ h)))))
set_option maxRecDepth 100000 in
set_option maxHeartbeats 4000000 in
theorem c_X8_keep {l : Launch} {a : Nat → Nat} {M : xMem} {p1 : Int32} {post : Int32 → xMem → Prop} (ha : xInj a) (h : w_X8_keep M p1 post) : ∀ D cs sz, xMetI l yX8_keep wsX8_keep rm_X8_keep D a cs sz M [.ref (a 0), .int p1] post := by
  intro D cs sz
  unfold w_X8_keep at h
  refine x_metI (ty := .int) [some (.ref (a 0)), some (.int p1)] (by decide) rfl rfl (Nat.le_of_ble_eq_true rfl) rfl rfl ha D cs sz rfl (fun G e1 e2 hG hQ => ?_)
  subst e1
  subst e2
  refine x_iload_n hG dX8_keep_0 rfl rfl ?_
  refine x_iconst (v := (0 : Int32)) hG dX8_keep_1 (by decide) ?_
  refine x_iconst (v := (1 : Int32)) hG dX8_keep_2 (by decide) ?_
  refine x_cSI3 hG dX8_keep_3 (fun ha => c_X8_within ha h) gX8_keep_X8_within rfl ⟨rfl, rfl⟩ hy_X8_within ⟨Nat.le_of_ble_eq_true rfl, Nat.le_of_ble_eq_true rfl⟩ (Nat.le_of_ble_eq_true rfl) (fun z1 M2 h => ?_)
  refine x_if_ne (tgt := 11) hG dX8_keep_6 (by decide) (fun hc3 => ?_) (fun hc3 => ?_)
  · have h := h.1 hc3
    refine x_aload_n hG dX8_keep_11 rfl rfl ?_
    refine x_get_8_4 hG dX8_keep_12 (rfl : kd 0 = 8) hin_X8_keep_X8 (List.mem_of_getElem? (i := 1) rfl) ?_
    refine x_iload_n hG dX8_keep_15 rfl rfl ?_
    obtain ⟨hi4, h⟩ := h
    refine x_aaload12 hG dX8_keep_16 (kf_8_4 (rfl : kd 0 = 8)).1 (x_inE (kf_8_4 (rfl : kd 0 = 8)).2 hi4) ?_
    refine x_iconst (v := (1 : Int32)) hG dX8_keep_17 (by decide) ?_
    have h := h _ rfl
    refine x_put_3_2 hG dX8_keep_18 (ke_12 (kf_8_4 (rfl : kd 0 = 8)).1 (vp_lt (x_inE (kf_8_4 (rfl : kd 0 = 8)).2 hi4))) (by decide) hin_X8_keep_X3 (List.mem_of_getElem? (i := 2) rfl) ?_
    refine x_aload_n hG dX8_keep_21 rfl rfl ?_
    refine x_get_8_4 hG dX8_keep_22 (rfl : kd 0 = 8) hin_X8_keep_X8 (List.mem_of_getElem? (i := 1) rfl) ?_
    refine x_iload_n hG dX8_keep_25 rfl rfl ?_
    refine x_aaload12 hG dX8_keep_26 (kf_8_4 (rfl : kd 0 = 8)).1 (x_inE (kf_8_4 (rfl : kd 0 = 8)).2 hi4) ?_
    refine x_get_3_0 hG dX8_keep_27 (ke_12 (kf_8_4 (rfl : kd 0 = 8)).1 (vp_lt (x_inE (kf_8_4 (rfl : kd 0 = 8)).2 hi4))) hin_X8_keep_X3 (List.mem_of_getElem? (i := 3) rfl) ?_
    refine x_aload_n hG dX8_keep_30 rfl rfl ?_
    refine x_get_8_5 hG dX8_keep_31 (rfl : kd 0 = 8) hin_X8_keep_X8 (List.mem_of_getElem? (i := 4) rfl) ?_
    obtain ⟨hk6, h⟩ := h
    refine x_get_2_4 hG dX8_keep_34 hk6 hin_X8_keep_X2 (List.mem_of_getElem? (i := 5) rfl) ?_
    refine x_cVV1 hG dX8_keep_37 (fun ha => c_X0_becomes ha h) gX8_keep_X0_becomes rfl ⟨rfl, rfl⟩ hy_X0_becomes ⟨Nat.le_of_ble_eq_true rfl, Nat.le_of_ble_eq_true rfl⟩ (kd_lt (kf_3_0 (ke_12 (kf_8_4 (rfl : kd 0 = 8)).1 (vp_lt (x_inE (kf_8_4 (rfl : kd 0 = 8)).2 hi4)))).1 (by decide)) (fun _ => xc_0 (kf_3_0 (ke_12 (kf_8_4 (rfl : kd 0 = 8)).1 (vp_lt (x_inE (kf_8_4 (rfl : kd 0 = 8)).2 hi4)))).1) rfl (Nat.le_of_ble_eq_true rfl) (fun M8 h => ?_)
    refine x_aload_n hG dX8_keep_40 rfl rfl ?_
    refine x_get_8_4 hG dX8_keep_41 (rfl : kd 0 = 8) hin_X8_keep_X8 (List.mem_of_getElem? (i := 1) rfl) ?_
    refine x_iload_n hG dX8_keep_44 rfl rfl ?_
    refine x_aaload12 hG dX8_keep_45 (kf_8_4 (rfl : kd 0 = 8)).1 (x_inE (kf_8_4 (rfl : kd 0 = 8)).2 hi4) ?_
    refine x_get_3_1 hG dX8_keep_46 (ke_12 (kf_8_4 (rfl : kd 0 = 8)).1 (vp_lt (x_inE (kf_8_4 (rfl : kd 0 = 8)).2 hi4))) hin_X8_keep_X3 (List.mem_of_getElem? (i := 6) rfl) ?_
    refine x_aload_n hG dX8_keep_49 rfl rfl ?_
    refine x_get_8_3 hG dX8_keep_50 (rfl : kd 0 = 8) hin_X8_keep_X8 (List.mem_of_getElem? (i := 7) rfl) ?_
    refine x_cVV1 hG dX8_keep_53 (fun ha => c_X1_becomes ha h) gX8_keep_X1_becomes rfl ⟨rfl, rfl⟩ hy_X1_becomes ⟨Nat.le_of_ble_eq_true rfl, Nat.le_of_ble_eq_true rfl⟩ (kd_lt (kf_3_1 (ke_12 (kf_8_4 (rfl : kd 0 = 8)).1 (vp_lt (x_inE (kf_8_4 (rfl : kd 0 = 8)).2 hi4)))).1 (by decide)) (fun _ => xc_1 (kf_3_1 (ke_12 (kf_8_4 (rfl : kd 0 = 8)).1 (vp_lt (x_inE (kf_8_4 (rfl : kd 0 = 8)).2 hi4)))).1) rfl (Nat.le_of_ble_eq_true rfl) (fun M10 h => ?_)
    refine x_aload_n hG dX8_keep_56 rfl rfl ?_
    refine x_get_8_3 hG dX8_keep_57 (rfl : kd 0 = 8) hin_X8_keep_X8 (List.mem_of_getElem? (i := 7) rfl) ?_
    refine x_get_1_2 hG dX8_keep_60 (kf_8_3 (rfl : kd 0 = 8)).1 hin_X8_keep_X1 (List.mem_of_getElem? (i := 8) rfl) ?_
    exact x_iret hG hQ dX8_keep_63 rfl h
  · have h := h.2 hc3
    refine x_iconst (v := (-1 : Int32)) hG dX8_keep_9 (by decide) ?_
    exact x_iret hG hQ dX8_keep_10 rfl h
abbrev rm_X8_back : Room := { frames := 6, cells := 0, slots := 0, locals := 140 }
theorem hy_X8_back : yX8_back.cls = RX8 ∧ yX8_back.cls ≠ "java/lang/invoke/MethodHandle" ∧ yX8_back.cls ≠ "java/lang/invoke/VarHandle" ∧ (parseMethodDescriptor yX8_back.desc).map (fun d => d.parameters.length) = some 1 := by decide +kernel
theorem hin_X8_back_X1 : ∀ w ∈ wsX10, w ∈ wsX8_back := fun _ h => List.mem_cons_of_mem _ (List.mem_append_left _ (List.mem_append_left _ (List.mem_append_left _ (List.mem_append_right _ h))))
theorem hin_X8_back_X2 : ∀ w ∈ wsX20, w ∈ wsX8_back := fun _ h => List.mem_cons_of_mem _ (List.mem_append_left _ (List.mem_append_left _ (List.mem_append_left _ (List.mem_append_left _ (List.mem_append_right _ h)))))
theorem hin_X8_back_X3 : ∀ w ∈ wsX30, w ∈ wsX8_back := fun _ h => List.mem_cons_of_mem _ (List.mem_append_left _ (List.mem_append_left _ (List.mem_append_left _ (List.mem_append_left _ (List.mem_append_left _ (List.mem_append_right _ h))))))
theorem hin_X8_back_X8 : ∀ w ∈ wsX80, w ∈ wsX8_back := fun _ h => List.mem_cons_of_mem _ (List.mem_append_left _ (List.mem_append_left _ (List.mem_append_left _ (List.mem_append_left _ (List.mem_append_left _ (List.mem_append_left _ (List.mem_append_right _ h)))))))
set_option maxRecDepth 100000 in
set_option maxHeartbeats 4000000 in
theorem c_X8_back {l : Launch} {a : Nat → Nat} {M : xMem} {p1 : Int32} {post : Int32 → xMem → Prop} (ha : xInj a) (h : w_X8_back M p1 post) : ∀ D cs sz, xMetI l yX8_back wsX8_back rm_X8_back D a cs sz M [.ref (a 0), .int p1] post := by
  intro D cs sz
  unfold w_X8_back at h
  refine x_metI (ty := .int) [some (.ref (a 0)), some (.int p1)] (by decide) rfl rfl (Nat.le_of_ble_eq_true rfl) rfl rfl ha D cs sz rfl (fun G e1 e2 hG hQ => ?_)
  subst e1
  subst e2
  refine x_iload_n hG dX8_back_0 rfl rfl ?_
  refine x_iconst (v := (0 : Int32)) hG dX8_back_1 (by decide) ?_
  refine x_iconst (v := (1 : Int32)) hG dX8_back_2 (by decide) ?_
  refine x_cSI3 hG dX8_back_3 (fun ha => c_X8_within ha h) gX8_back_X8_within rfl ⟨rfl, rfl⟩ hy_X8_within ⟨Nat.le_of_ble_eq_true rfl, Nat.le_of_ble_eq_true rfl⟩ (Nat.le_of_ble_eq_true rfl) (fun z1 M2 h => ?_)
  refine x_if_ne (tgt := 11) hG dX8_back_6 (by decide) (fun hc3 => ?_) (fun hc3 => ?_)
  · have h := h.1 hc3
    refine x_aload_n hG dX8_back_11 rfl rfl ?_
    refine x_get_8_4 hG dX8_back_12 (rfl : kd 0 = 8) hin_X8_back_X8 (List.mem_of_getElem? (i := 1) rfl) ?_
    refine x_iload_n hG dX8_back_15 rfl rfl ?_
    obtain ⟨hi4, h⟩ := h
    refine x_aaload12 hG dX8_back_16 (kf_8_4 (rfl : kd 0 = 8)).1 (x_inE (kf_8_4 (rfl : kd 0 = 8)).2 hi4) ?_
    refine x_get_3_2 hG dX8_back_17 (ke_12 (kf_8_4 (rfl : kd 0 = 8)).1 (vp_lt (x_inE (kf_8_4 (rfl : kd 0 = 8)).2 hi4))) hin_X8_back_X3 (List.mem_of_getElem? (i := 2) rfl) ?_
    refine x_if_ne (tgt := 26) hG dX8_back_20 (by decide) (fun hc5 => ?_) (fun hc5 => ?_)
    · have h := h.1 hc5
      refine x_aload_n hG dX8_back_26 rfl rfl ?_
      refine x_get_8_5 hG dX8_back_27 (rfl : kd 0 = 8) hin_X8_back_X8 (List.mem_of_getElem? (i := 3) rfl) ?_
      obtain ⟨hk6, h⟩ := h
      refine x_get_2_4 hG dX8_back_30 hk6 hin_X8_back_X2 (List.mem_of_getElem? (i := 4) rfl) ?_
      refine x_aload_n hG dX8_back_33 rfl rfl ?_
      refine x_get_8_4 hG dX8_back_34 (rfl : kd 0 = 8) hin_X8_back_X8 (List.mem_of_getElem? (i := 1) rfl) ?_
      refine x_iload_n hG dX8_back_37 rfl rfl ?_
      refine x_aaload12 hG dX8_back_38 (kf_8_4 (rfl : kd 0 = 8)).1 (x_inE (kf_8_4 (rfl : kd 0 = 8)).2 hi4) ?_
      refine x_get_3_0 hG dX8_back_39 (ke_12 (kf_8_4 (rfl : kd 0 = 8)).1 (vp_lt (x_inE (kf_8_4 (rfl : kd 0 = 8)).2 hi4))) hin_X8_back_X3 (List.mem_of_getElem? (i := 5) rfl) ?_
      refine x_cVV1 hG dX8_back_42 (fun ha => c_X0_becomes ha h) gX8_back_X0_becomes rfl ⟨rfl, rfl⟩ hy_X0_becomes ⟨Nat.le_of_ble_eq_true rfl, Nat.le_of_ble_eq_true rfl⟩ (kd_lt (kf_2_4 hk6).1 (by decide)) (fun _ => xc_0 (kf_2_4 hk6).1) rfl (Nat.le_of_ble_eq_true rfl) (fun M8 h => ?_)
      refine x_aload_n hG dX8_back_45 rfl rfl ?_
      refine x_get_8_3 hG dX8_back_46 (rfl : kd 0 = 8) hin_X8_back_X8 (List.mem_of_getElem? (i := 6) rfl) ?_
      refine x_aload_n hG dX8_back_49 rfl rfl ?_
      refine x_get_8_4 hG dX8_back_50 (rfl : kd 0 = 8) hin_X8_back_X8 (List.mem_of_getElem? (i := 1) rfl) ?_
      refine x_iload_n hG dX8_back_53 rfl rfl ?_
      refine x_aaload12 hG dX8_back_54 (kf_8_4 (rfl : kd 0 = 8)).1 (x_inE (kf_8_4 (rfl : kd 0 = 8)).2 hi4) ?_
      refine x_get_3_1 hG dX8_back_55 (ke_12 (kf_8_4 (rfl : kd 0 = 8)).1 (vp_lt (x_inE (kf_8_4 (rfl : kd 0 = 8)).2 hi4))) hin_X8_back_X3 (List.mem_of_getElem? (i := 7) rfl) ?_
      refine x_cVV1 hG dX8_back_58 (fun ha => c_X1_becomes ha h) gX8_back_X1_becomes rfl ⟨rfl, rfl⟩ hy_X1_becomes ⟨Nat.le_of_ble_eq_true rfl, Nat.le_of_ble_eq_true rfl⟩ (kd_lt (kf_8_3 (rfl : kd 0 = 8)).1 (by decide)) (fun _ => xc_1 (kf_8_3 (rfl : kd 0 = 8)).1) rfl (Nat.le_of_ble_eq_true rfl) (fun M10 h => ?_)
      refine x_aload_n hG dX8_back_61 rfl rfl ?_
      refine x_cVV0 hG dX8_back_62 (fun ha => c_X8_listen ha h) gX8_back_X8_listen rfl ⟨rfl, rfl⟩ hy_X8_listen ⟨Nat.le_of_ble_eq_true rfl, Nat.le_of_ble_eq_true rfl⟩ (kd_lt (rfl : kd 0 = 8) (by decide)) (fun _ => xc_8 (rfl : kd 0 = 8)) rfl (Nat.le_of_ble_eq_true rfl) (fun M12 h => ?_)
      refine x_aload_n hG dX8_back_65 rfl rfl ?_
      refine x_get_8_3 hG dX8_back_66 (rfl : kd 0 = 8) hin_X8_back_X8 (List.mem_of_getElem? (i := 6) rfl) ?_
      refine x_get_1_2 hG dX8_back_69 (kf_8_3 (rfl : kd 0 = 8)).1 hin_X8_back_X1 (List.mem_of_getElem? (i := 8) rfl) ?_
      exact x_iret hG hQ dX8_back_72 rfl h
    · have h := h.2 hc5
      refine x_bipush (v := (-2 : Int32)) hG dX8_back_23 (by decide) ?_
      exact x_iret hG hQ dX8_back_25 rfl h
  · have h := h.2 hc3
    refine x_iconst (v := (-1 : Int32)) hG dX8_back_9 (by decide) ?_
    exact x_iret hG hQ dX8_back_10 rfl h
abbrev rm_X8_count : Room := { frames := 2, cells := 0, slots := 0, locals := 45 }
theorem hy_X8_count : yX8_count.cls = RX8 ∧ yX8_count.cls ≠ "java/lang/invoke/MethodHandle" ∧ yX8_count.cls ≠ "java/lang/invoke/VarHandle" ∧ (parseMethodDescriptor yX8_count.desc).map (fun d => d.parameters.length) = some 1 := by decide +kernel
theorem hin_X8_count_X1 : ∀ w ∈ wsX10, w ∈ wsX8_count := fun _ h => List.mem_cons_of_mem _ (List.mem_append_left _ (List.mem_append_left _ (List.mem_append_left _ (List.mem_append_right _ h))))
theorem hin_X8_count_X2 : ∀ w ∈ wsX20, w ∈ wsX8_count := fun _ h => List.mem_cons_of_mem _ (List.mem_append_left _ (List.mem_append_left _ (List.mem_append_left _ (List.mem_append_left _ (List.mem_append_right _ h)))))
theorem hin_X8_count_X5 : ∀ w ∈ wsX50, w ∈ wsX8_count := fun _ h => List.mem_cons_of_mem _ (List.mem_append_left _ (List.mem_append_left _ (List.mem_append_right _ h)))
theorem hin_X8_count_X7 : ∀ w ∈ wsX70, w ∈ wsX8_count := fun _ h => List.mem_cons_of_mem _ (List.mem_append_left _ (List.mem_append_right _ h))
theorem hin_X8_count_X8 : ∀ w ∈ wsX80, w ∈ wsX8_count := fun _ h => List.mem_cons_of_mem _ (List.mem_append_left _ (List.mem_append_left _ (List.mem_append_left _ (List.mem_append_left _ (List.mem_append_left _ (List.mem_append_right _ h))))))
set_option maxRecDepth 100000 in
set_option maxHeartbeats 4000000 in
theorem c_X8_count {l : Launch} {a : Nat → Nat} {M : xMem} {p1 : Int32} {post : Int32 → xMem → Prop} (ha : xInj a) (h : w_X8_count M p1 post) : ∀ D cs sz, xMetI l yX8_count wsX8_count rm_X8_count D a cs sz M [.ref (a 0), .int p1] post := by
  intro D cs sz
  unfold w_X8_count at h
  refine x_metI (ty := .int) [some (.ref (a 0)), some (.int p1)] (by decide) rfl rfl (Nat.le_of_ble_eq_true rfl) rfl rfl ha D cs sz rfl (fun G e1 e2 hG hQ => ?_)
  subst e1
  subst e2
  refine x_iload_n hG dX8_count_0 rfl rfl ?_
  by_cases hc1 : p1 = 0
  · have h := h.1 hc1
    refine x_tsIn (tgt := 48) hG dX8_count_1 0 (by rw [hc1]; decide) rfl rfl (by decide) ?_
    refine x_aload_n hG dX8_count_48 rfl rfl ?_
    refine x_get_8_5 hG dX8_count_49 (rfl : kd 0 = 8) hin_X8_count_X8 (List.mem_of_getElem? (i := 1) rfl) ?_
    obtain ⟨hk2, h⟩ := h
    refine x_get_2_0 hG dX8_count_52 hk2 hin_X8_count_X2 (List.mem_of_getElem? (i := 2) rfl) ?_
    exact x_iret hG hQ dX8_count_55 rfl h
  have h := h.2
  by_cases hc3 : p1 = 1
  · have h := h.1 hc3
    refine x_tsIn (tgt := 56) hG dX8_count_1 1 (by rw [hc3]; decide) rfl rfl (by decide) ?_
    refine x_aload_n hG dX8_count_56 rfl rfl ?_
    refine x_get_8_5 hG dX8_count_57 (rfl : kd 0 = 8) hin_X8_count_X8 (List.mem_of_getElem? (i := 1) rfl) ?_
    obtain ⟨hk4, h⟩ := h
    refine x_get_2_1 hG dX8_count_60 hk4 hin_X8_count_X2 (List.mem_of_getElem? (i := 3) rfl) ?_
    exact x_iret hG hQ dX8_count_63 rfl h
  have h := h.2
  by_cases hc5 : p1 = 2
  · have h := h.1 hc5
    refine x_tsIn (tgt := 64) hG dX8_count_1 2 (by rw [hc5]; decide) rfl rfl (by decide) ?_
    refine x_aload_n hG dX8_count_64 rfl rfl ?_
    refine x_get_8_5 hG dX8_count_65 (rfl : kd 0 = 8) hin_X8_count_X8 (List.mem_of_getElem? (i := 1) rfl) ?_
    obtain ⟨hk6, h⟩ := h
    refine x_get_2_2 hG dX8_count_68 hk6 hin_X8_count_X2 (List.mem_of_getElem? (i := 4) rfl) ?_
    exact x_iret hG hQ dX8_count_71 rfl h
  have h := h.2
  by_cases hc7 : p1 = 3
  · have h := h.1 hc7
    refine x_tsIn (tgt := 72) hG dX8_count_1 3 (by rw [hc7]; decide) rfl rfl (by decide) ?_
    refine x_aload_n hG dX8_count_72 rfl rfl ?_
    refine x_get_8_5 hG dX8_count_73 (rfl : kd 0 = 8) hin_X8_count_X8 (List.mem_of_getElem? (i := 1) rfl) ?_
    obtain ⟨hk8, h⟩ := h
    refine x_get_2_3 hG dX8_count_76 hk8 hin_X8_count_X2 (List.mem_of_getElem? (i := 5) rfl) ?_
    exact x_iret hG hQ dX8_count_79 rfl h
  have h := h.2
  by_cases hc9 : p1 = 4
  · have h := h.1 hc9
    refine x_tsIn (tgt := 80) hG dX8_count_1 4 (by rw [hc9]; decide) rfl rfl (by decide) ?_
    refine x_aload_n hG dX8_count_80 rfl rfl ?_
    refine x_get_8_3 hG dX8_count_81 (rfl : kd 0 = 8) hin_X8_count_X8 (List.mem_of_getElem? (i := 6) rfl) ?_
    refine x_get_1_2 hG dX8_count_84 (kf_8_3 (rfl : kd 0 = 8)).1 hin_X8_count_X1 (List.mem_of_getElem? (i := 7) rfl) ?_
    exact x_iret hG hQ dX8_count_87 rfl h
  have h := h.2
  by_cases hc10 : p1 = 5
  · have h := h.1 hc10
    refine x_tsIn (tgt := 88) hG dX8_count_1 5 (by rw [hc10]; decide) rfl rfl (by decide) ?_
    refine x_aload_n hG dX8_count_88 rfl rfl ?_
    refine x_get_8_0 hG dX8_count_89 (rfl : kd 0 = 8) hin_X8_count_X8 (List.mem_of_getElem? (i := 8) rfl) ?_
    refine x_get_5_0 hG dX8_count_92 (kf_8_0 (rfl : kd 0 = 8)).1 hin_X8_count_X5 (List.mem_of_getElem? (i := 9) rfl) ?_
    refine x_get_7_1 hG dX8_count_95 (kf_5_0 (kf_8_0 (rfl : kd 0 = 8)).1).1 hin_X8_count_X7 (List.mem_of_getElem? (i := 10) rfl) ?_
    exact x_iret hG hQ dX8_count_98 rfl h
  have h := h.2
  by_cases hc11 : p1 = 6
  · have h := h.1 hc11
    refine x_tsIn (tgt := 99) hG dX8_count_1 6 (by rw [hc11]; decide) rfl rfl (by decide) ?_
    refine x_aload_n hG dX8_count_99 rfl rfl ?_
    refine x_get_8_5 hG dX8_count_100 (rfl : kd 0 = 8) hin_X8_count_X8 (List.mem_of_getElem? (i := 1) rfl) ?_
    obtain ⟨hk12, h⟩ := h
    refine x_get_2_4 hG dX8_count_103 hk12 hin_X8_count_X2 (List.mem_of_getElem? (i := 11) rfl) ?_
    refine x_iconst (v := (0 : Int32)) hG dX8_count_106 (by decide) ?_
    refine x_cVI1 hG dX8_count_107 (fun ha => c_X0_all ha h) gX8_count_X0_all rfl ⟨rfl, rfl⟩ hy_X0_all ⟨Nat.le_of_ble_eq_true rfl, Nat.le_of_ble_eq_true rfl⟩ (kd_lt (kf_2_4 hk12).1 (by decide)) (fun _ => xc_0 (kf_2_4 hk12).1) rfl (Nat.le_of_ble_eq_true rfl) (fun z13 M14 h => ?_)
    exact x_iret hG hQ dX8_count_110 rfl h
  have h := h.2
  by_cases hc15 : p1 = 7
  · have h := h.1 hc15
    refine x_tsIn (tgt := 111) hG dX8_count_1 7 (by rw [hc15]; decide) rfl rfl (by decide) ?_
    refine x_aload_n hG dX8_count_111 rfl rfl ?_
    refine x_get_8_5 hG dX8_count_112 (rfl : kd 0 = 8) hin_X8_count_X8 (List.mem_of_getElem? (i := 1) rfl) ?_
    obtain ⟨hk16, h⟩ := h
    refine x_get_2_4 hG dX8_count_115 hk16 hin_X8_count_X2 (List.mem_of_getElem? (i := 11) rfl) ?_
    refine x_iconst (v := (1 : Int32)) hG dX8_count_118 (by decide) ?_
    refine x_cVI1 hG dX8_count_119 (fun ha => c_X0_all ha h) gX8_count_X0_all rfl ⟨rfl, rfl⟩ hy_X0_all ⟨Nat.le_of_ble_eq_true rfl, Nat.le_of_ble_eq_true rfl⟩ (kd_lt (kf_2_4 hk16).1 (by decide)) (fun _ => xc_0 (kf_2_4 hk16).1) rfl (Nat.le_of_ble_eq_true rfl) (fun z17 M18 h => ?_)
    exact x_iret hG hQ dX8_count_122 rfl h
  have h := h.2
  have h := h hc1 hc3 hc5 hc7 hc9 hc10 hc11 hc15
  have e0 : p1.toInt ≠ 0 := fun q => hc1 (Int32.toInt_inj.mp (q.trans (by decide)))
  have e1 : p1.toInt ≠ 1 := fun q => hc3 (Int32.toInt_inj.mp (q.trans (by decide)))
  have e2 : p1.toInt ≠ 2 := fun q => hc5 (Int32.toInt_inj.mp (q.trans (by decide)))
  have e3 : p1.toInt ≠ 3 := fun q => hc7 (Int32.toInt_inj.mp (q.trans (by decide)))
  have e4 : p1.toInt ≠ 4 := fun q => hc9 (Int32.toInt_inj.mp (q.trans (by decide)))
  have e5 : p1.toInt ≠ 5 := fun q => hc10 (Int32.toInt_inj.mp (q.trans (by decide)))
  have e6 : p1.toInt ≠ 6 := fun q => hc11 (Int32.toInt_inj.mp (q.trans (by decide)))
  have e7 : p1.toInt ≠ 7 := fun q => hc15 (Int32.toInt_inj.mp (q.trans (by decide)))
  refine x_tsOut (tgt := 123) hG dX8_count_1 (by omega) (by decide) ?_
  refine x_iconst (v := (-1 : Int32)) hG dX8_count_123 (by decide) ?_
  exact x_iret hG hQ dX8_count_124 rfl h
abbrev rm_X8_trace : Room := { frames := 0, cells := 0, slots := 0, locals := 0 }
theorem hy_X8_trace : yX8_trace.cls = RX8 ∧ yX8_trace.cls ≠ "java/lang/invoke/MethodHandle" ∧ yX8_trace.cls ≠ "java/lang/invoke/VarHandle" ∧ (parseMethodDescriptor yX8_trace.desc).map (fun d => d.parameters.length) = some 0 := by decide +kernel
theorem hin_X8_trace_X8 : ∀ w ∈ wsX80, w ∈ wsX8_trace := fun _ h => List.mem_cons_of_mem _ (List.mem_append_right _ h)
set_option maxRecDepth 100000 in
set_option maxHeartbeats 4000000 in
theorem c_X8_trace {l : Launch} {a : Nat → Nat} {M : xMem} {post : Int64 → xMem → Prop} (ha : xInj a) (h : w_X8_trace M post) : ∀ D cs sz, xMetL l yX8_trace wsX8_trace rm_X8_trace D a cs sz M [.ref (a 0)] post := by
  intro D cs sz
  unfold w_X8_trace at h
  refine x_metL [some (.ref (a 0))] (by decide) rfl rfl (Nat.le_of_ble_eq_true rfl) rfl rfl ha D cs sz rfl (fun G e1 e2 hG hQ => ?_)
  subst e1
  subst e2
  refine x_aload_n hG dX8_trace_0 rfl rfl ?_
  refine x_get_8_7 hG dX8_trace_1 (rfl : kd 0 = 8) hin_X8_trace_X8 (List.mem_of_getElem? (i := 1) rfl) ?_
  exact x_lret hG hQ dX8_trace_4 h
