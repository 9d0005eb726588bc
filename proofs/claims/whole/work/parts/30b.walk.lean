abbrev rm_X5_readNumber : Room := { frames := 7, cells := 0, slots := 0, locals := 147 }
theorem hy_X5_readNumber : yX5_readNumber.cls = RX5 ∧ yX5_readNumber.cls ≠ "java/lang/invoke/MethodHandle" ∧ yX5_readNumber.cls ≠ "java/lang/invoke/VarHandle" ∧ (parseMethodDescriptor yX5_readNumber.desc).map (fun d => d.parameters.length) = some 4 := by decide +kernel
theorem hin_X5_readNumber_X5 : ∀ w ∈ wsX50, w ∈ wsX5_readNumber := fun _ h => List.mem_cons_of_mem _ (List.mem_append_left _ (List.mem_append_right _ h))
set_option maxRecDepth 100000 in
set_option maxHeartbeats 4000000 in
theorem c_X5_readNumber {l : Launch} {a : Nat → Nat} {M : xMem} {p1 : Int32} {p2 : Int32} {p3 : Nat} {p4 : Int32} {post : Int32 → xMem → Prop} (ha : xInj a) (h : w_X5_readNumber M p1 p2 p3 p4 post) : ∀ D cs sz, xMetI l yX5_readNumber wsX5_readNumber rm_X5_readNumber D a cs sz M [.ref (a 1), .int p1, .int p2, .ref (a p3), .int p4] post := by
  intro D cs sz
  unfold w_X5_readNumber at h
  refine x_metI (ty := .boolean) [some (.ref (a 1)), some (.int p1), some (.int p2), some (.ref (a p3)), some (.int p4)] (by decide) rfl rfl (Nat.le_of_ble_eq_true rfl) rfl rfl ha D cs sz rfl (fun G e1 e2 hG hQ => ?_)
  subst e1
  subst e2
  refine x_aload_n hG dX5_readNumber_0 rfl rfl ?_
  refine x_cVV0 hG dX5_readNumber_1 (fun ha => c_X5_nextToken ha h) gX5_readNumber_X5_nextToken rfl ⟨rfl, rfl⟩ hy_X5_nextToken ⟨Nat.le_of_ble_eq_true rfl, Nat.le_of_ble_eq_true rfl⟩ (kd_lt (rfl : kd 1 = 5) (by decide)) (fun _ => xc_5 (rfl : kd 1 = 5)) rfl (Nat.le_of_ble_eq_true rfl) (fun M2 h => ?_)
  refine x_aload_n hG dX5_readNumber_4 rfl rfl ?_
  refine x_get_5_4 hG dX5_readNumber_5 (rfl : kd 1 = 5) hin_X5_readNumber_X5 (List.mem_of_getElem? (i := 1) rfl) ?_
  refine x_iconst (v := (2 : Int32)) hG dX5_readNumber_8 (by decide) ?_
  refine x_icmp_ne (tgt := 24) hG dX5_readNumber_9 (by decide) (fun hc3 => ?_) (fun hc3 => ?_)
  · have h := h.1 hc3
    refine x_iconst (v := (0 : Int32)) hG dX5_readNumber_24 (by decide) ?_
    exact x_iret hG hQ dX5_readNumber_25 rfl h
  · have h := h.2 hc3
    refine x_aload_n hG dX5_readNumber_12 rfl rfl ?_
    refine x_get_5_5 hG dX5_readNumber_13 (rfl : kd 1 = 5) hin_X5_readNumber_X5 (List.mem_of_getElem? (i := 2) rfl) ?_
    refine x_iload_n hG dX5_readNumber_16 rfl rfl ?_
    refine x_iload_n hG dX5_readNumber_17 rfl rfl ?_
    refine x_cSN3 hG dX5_readNumber_18 (fun _ _ _ _ h => h.1) (List.mem_of_getElem? (i := 82) rfl) (List.mem_of_getElem? (i := 83) rfl) (fun ha => c_X8_within ha h) gX5_readNumber_X8_within_n116 rfl ⟨rfl, rfl⟩ hy_X8_within ⟨Nat.le_of_ble_eq_true rfl, Nat.le_of_ble_eq_true rfl⟩ (Nat.le_of_ble_eq_true rfl) (fun z4 M5 h => ?_)
    refine x_if_ne (tgt := 26) hG dX5_readNumber_21 (by decide) (fun hc6 => ?_) (fun hc6 => ?_)
    · have h := h.1 hc6
      refine x_iload hG dX5_readNumber_26 rfl ?_
      refine x_if_lt (tgt := 38) hG dX5_readNumber_28 (by decide) (fun hc7 => ?_) (fun hc7 => ?_)
      · have h := h.1 hc7
        refine x_iconst (v := (0 : Int32)) hG dX5_readNumber_38 (by decide) ?_
        exact x_iret hG hQ dX5_readNumber_39 rfl h
      · have h := h.2 hc7
        refine x_iload hG dX5_readNumber_31 rfl ?_
        refine x_aload_n hG dX5_readNumber_33 rfl rfl ?_
        obtain ⟨hk8, h⟩ := h
        refine x_alen hG dX5_readNumber_34 hk8 ?_
        refine x_icmp_lt (tgt := 40) hG dX5_readNumber_35 (by decide) (fun hc9 => ?_) (fun hc9 => ?_)
        · have h := h.1 hc9
          refine x_aload_n hG dX5_readNumber_40 rfl rfl ?_
          refine x_iload hG dX5_readNumber_41 rfl ?_
          refine x_aload_n hG dX5_readNumber_43 rfl rfl ?_
          refine x_get_5_5 hG dX5_readNumber_44 (rfl : kd 1 = 5) hin_X5_readNumber_X5 (List.mem_of_getElem? (i := 2) rfl) ?_
          obtain ⟨hi10, h⟩ := h
          have h := h _ rfl
          refine x_iastore hG dX5_readNumber_47 hk8 hi10 ?_
          refine x_iconst (v := (1 : Int32)) hG dX5_readNumber_48 (by decide) ?_
          exact x_iret hG hQ dX5_readNumber_49 rfl h
        · have h := h.2 hc9
          refine x_iconst (v := (0 : Int32)) hG dX5_readNumber_38 (by decide) ?_
          exact x_iret hG hQ dX5_readNumber_39 rfl h
    · have h := h.2 hc6
      refine x_iconst (v := (0 : Int32)) hG dX5_readNumber_24 (by decide) ?_
      exact x_iret hG hQ dX5_readNumber_25 rfl h
abbrev rm_X5_readSize : Room := { frames := 8, cells := 0, slots := 0, locals := 171 }
theorem hy_X5_readSize : yX5_readSize.cls = RX5 ∧ yX5_readSize.cls ≠ "java/lang/invoke/MethodHandle" ∧ yX5_readSize.cls ≠ "java/lang/invoke/VarHandle" ∧ (parseMethodDescriptor yX5_readSize.desc).map (fun d => d.parameters.length) = some 1 := by decide +kernel
theorem hin_X5_readSize_X2 : ∀ w ∈ wsX20, w ∈ wsX5_readSize := fun _ h => List.mem_cons_of_mem _ (List.mem_append_left _ (List.mem_append_right _ h))
theorem hin_X5_readSize_X5 : ∀ w ∈ wsX50, w ∈ wsX5_readSize := fun _ h => List.mem_cons_of_mem _ (List.mem_append_left _ (List.mem_append_left _ (List.mem_append_right _ h)))
set_option maxRecDepth 100000 in
set_option maxHeartbeats 4000000 in
theorem c_X5_readSize {l : Launch} {a : Nat → Nat} {M : xMem} {p1 : Nat} {post : Int32 → xMem → Prop} (ha : xInj a) (h : w_X5_readSize M p1 post) : ∀ D cs sz, xMetI l yX5_readSize wsX5_readSize rm_X5_readSize D a cs sz M [.ref (a 1), .ref (a p1)] post := by
  intro D cs sz
  unfold w_X5_readSize at h
  refine x_metI (ty := .boolean) [some (.ref (a 1)), some (.ref (a p1))] (by decide) rfl rfl (Nat.le_of_ble_eq_true rfl) rfl rfl ha D cs sz rfl (fun G e1 e2 hG hQ => ?_)
  subst e1
  subst e2
  refine x_aload_n hG dX5_readSize_0 rfl rfl ?_
  refine x_iconst (v := (1 : Int32)) hG dX5_readSize_1 (by decide) ?_
  refine x_bipush (v := (8 : Int32)) hG dX5_readSize_2 (by decide) ?_
  refine x_aload_n hG dX5_readSize_4 rfl rfl ?_
  refine x_get_5_1 hG dX5_readSize_5 (rfl : kd 1 = 5) hin_X5_readSize_X5 (List.mem_of_getElem? (i := 1) rfl) ?_
  refine x_iconst (v := (0 : Int32)) hG dX5_readSize_8 (by decide) ?_
  refine x_cVI4 hG dX5_readSize_9 (fun ha => c_X5_readNumber ha h) gX5_readSize_X5_readNumber rfl ⟨rfl, rfl⟩ hy_X5_readNumber ⟨Nat.le_of_ble_eq_true rfl, Nat.le_of_ble_eq_true rfl⟩ (kd_lt (rfl : kd 1 = 5) (by decide)) (fun _ => xc_5 (rfl : kd 1 = 5)) rfl (Nat.le_of_ble_eq_true rfl) (fun z1 M2 h => ?_)
  refine x_if_eq (tgt := 30) hG dX5_readSize_12 (by decide) (fun hc3 => ?_) (fun hc3 => ?_)
  · have h := h.1 hc3
    refine x_iconst (v := (0 : Int32)) hG dX5_readSize_30 (by decide) ?_
    exact x_iret hG hQ dX5_readSize_31 rfl h
  · have h := h.2 hc3
    refine x_aload_n hG dX5_readSize_15 rfl rfl ?_
    refine x_iconst (v := (1 : Int32)) hG dX5_readSize_16 (by decide) ?_
    refine x_bipush (v := (6 : Int32)) hG dX5_readSize_17 (by decide) ?_
    refine x_aload_n hG dX5_readSize_19 rfl rfl ?_
    refine x_get_5_1 hG dX5_readSize_20 (rfl : kd 1 = 5) hin_X5_readSize_X5 (List.mem_of_getElem? (i := 1) rfl) ?_
    refine x_iconst (v := (1 : Int32)) hG dX5_readSize_23 (by decide) ?_
    refine x_cVI4 hG dX5_readSize_24 (fun ha => c_X5_readNumber ha h) gX5_readSize_X5_readNumber rfl ⟨rfl, rfl⟩ hy_X5_readNumber ⟨Nat.le_of_ble_eq_true rfl, Nat.le_of_ble_eq_true rfl⟩ (kd_lt (rfl : kd 1 = 5) (by decide)) (fun _ => xc_5 (rfl : kd 1 = 5)) rfl (Nat.le_of_ble_eq_true rfl) (fun z4 M5 h => ?_)
    refine x_if_ne (tgt := 32) hG dX5_readSize_27 (by decide) (fun hc6 => ?_) (fun hc6 => ?_)
    · have h := h.1 hc6
      refine x_aload_n hG dX5_readSize_32 rfl rfl ?_
      refine x_aload_n hG dX5_readSize_33 rfl rfl ?_
      refine x_get_5_1 hG dX5_readSize_34 (rfl : kd 1 = 5) hin_X5_readSize_X5 (List.mem_of_getElem? (i := 1) rfl) ?_
      refine x_iconst (v := (0 : Int32)) hG dX5_readSize_37 (by decide) ?_
      refine x_iaload hG dX5_readSize_38 (kf_5_1 (rfl : kd 1 = 5)).1 (x_inE (kf_5_1 (rfl : kd 1 = 5)).2 (x_inC (by decide))) ?_
      obtain ⟨hk7, h⟩ := h
      have h := h _ rfl
      refine x_put_2_0 hG dX5_readSize_39 hk7 hin_X5_readSize_X2 (List.mem_of_getElem? (i := 2) rfl) ?_
      refine x_aload_n hG dX5_readSize_42 rfl rfl ?_
      refine x_aload_n hG dX5_readSize_43 rfl rfl ?_
      refine x_get_5_1 hG dX5_readSize_44 (rfl : kd 1 = 5) hin_X5_readSize_X5 (List.mem_of_getElem? (i := 1) rfl) ?_
      refine x_iconst (v := (1 : Int32)) hG dX5_readSize_47 (by decide) ?_
      refine x_iaload hG dX5_readSize_48 (kf_5_1 (rfl : kd 1 = 5)).1 (x_inE (kf_5_1 (rfl : kd 1 = 5)).2 (x_inC (by decide))) ?_
      have h := h _ rfl
      refine x_put_2_1 hG dX5_readSize_49 hk7 hin_X5_readSize_X2 (List.mem_of_getElem? (i := 3) rfl) ?_
      refine x_iconst (v := (1 : Int32)) hG dX5_readSize_52 (by decide) ?_
      exact x_iret hG hQ dX5_readSize_53 rfl h
    · have h := h.2 hc6
      refine x_iconst (v := (0 : Int32)) hG dX5_readSize_30 (by decide) ?_
      exact x_iret hG hQ dX5_readSize_31 rfl h
abbrev rm_X8_mostOf : Room := { frames := 0, cells := 0, slots := 0, locals := 0 }
theorem hy_X8_mostOf : yX8_mostOf.cls ≠ "java/lang/invoke/MethodHandle" ∧ yX8_mostOf.cls ≠ "java/lang/invoke/VarHandle" ∧ (parseMethodDescriptor yX8_mostOf.desc).map (fun d => d.parameters.length) = some 1 := by decide +kernel
set_option maxRecDepth 100000 in
set_option maxHeartbeats 4000000 in
theorem c_X8_mostOf {l : Launch} {a : Nat → Nat} {M : xMem} {p0 : Int32} {post : Int32 → xMem → Prop} (ha : xInj a) (h : w_X8_mostOf M p0 post) : ∀ D cs sz, xMetI l yX8_mostOf wsX8_mostOf rm_X8_mostOf D a cs sz M [.int p0] post := by
  intro D cs sz
  unfold w_X8_mostOf at h
  refine x_metI (ty := .int) [some (.int p0)] (by decide) rfl rfl (Nat.le_of_ble_eq_true rfl) rfl rfl ha D cs sz rfl (fun G e1 e2 hG hQ => ?_)
  subst e1
  subst e2
  refine x_iload_n hG dX8_mostOf_0 rfl rfl ?_
  refine x_if_ne (tgt := 8) hG dX8_mostOf_1 (by decide) (fun hc1 => ?_) (fun hc1 => ?_)
  · have h := h.1 hc1
    refine x_bipush (v := (9 : Int32)) hG dX8_mostOf_8 (by decide) ?_
    exact x_iret hG hQ dX8_mostOf_10 rfl h
  · have h := h.2 hc1
    refine x_iconst (v := (3 : Int32)) hG dX8_mostOf_4 (by decide) ?_
    refine x_goto (tgt := 10) hG dX8_mostOf_5 (by decide) ?_
    exact x_iret hG hQ dX8_mostOf_10 rfl h
abbrev rm_X5_readBorder : Room := { frames := 8, cells := 0, slots := 0, locals := 171 }
theorem hy_X5_readBorder : yX5_readBorder.cls = RX5 ∧ yX5_readBorder.cls ≠ "java/lang/invoke/MethodHandle" ∧ yX5_readBorder.cls ≠ "java/lang/invoke/VarHandle" ∧ (parseMethodDescriptor yX5_readBorder.desc).map (fun d => d.parameters.length) = some 2 := by decide +kernel
theorem hin_X5_readBorder_X2 : ∀ w ∈ wsX20, w ∈ wsX5_readBorder := fun _ h => List.mem_cons_of_mem _ (List.mem_append_left _ (List.mem_append_left _ (List.mem_append_right _ h)))
theorem hin_X5_readBorder_X5 : ∀ w ∈ wsX50, w ∈ wsX5_readBorder := fun _ h => List.mem_cons_of_mem _ (List.mem_append_left _ (List.mem_append_left _ (List.mem_append_left _ (List.mem_append_right _ h))))
set_option maxRecDepth 100000 in
set_option maxHeartbeats 4000000 in
theorem c_X5_readBorder {l : Launch} {a : Nat → Nat} {M : xMem} {p1 : Nat} {p2 : Int32} {post : Int32 → xMem → Prop} (ha : xInj a) (h : w_X5_readBorder M p1 p2 post) : ∀ D cs sz, xMetI l yX5_readBorder wsX5_readBorder rm_X5_readBorder D a cs sz M [.ref (a 1), .ref (a p1), .int p2] post := by
  intro D cs sz
  unfold w_X5_readBorder at h
  refine x_metI (ty := .boolean) [some (.ref (a 1)), some (.ref (a p1)), some (.int p2), none] (by decide) rfl rfl (Nat.le_of_ble_eq_true rfl) rfl rfl ha D cs sz rfl (fun G e1 e2 hG hQ => ?_)
  subst e1
  subst e2
  refine x_aload_n hG dX5_readBorder_0 rfl rfl ?_
  refine x_iconst (v := (0 : Int32)) hG dX5_readBorder_1 (by decide) ?_
  refine x_aload_n hG dX5_readBorder_2 rfl rfl ?_
  have hk1 : kd p1 = 2 := And.left h
  refine x_cVI0 hG dX5_readBorder_3 (fun ha => c_X2_yards ha h) gX5_readBorder_X2_yards rfl ⟨rfl, rfl⟩ hy_X2_yards ⟨Nat.le_of_ble_eq_true rfl, Nat.le_of_ble_eq_true rfl⟩ (kd_lt hk1 (by decide)) (fun _ => xc_2 hk1) rfl (Nat.le_of_ble_eq_true rfl) (fun z2 M3 h => ?_)
  refine x_iconst (v := (1 : Int32)) hG dX5_readBorder_6 (by decide) ?_
  refine x_isub hG dX5_readBorder_7 ?_
  refine x_aload_n hG dX5_readBorder_8 rfl rfl ?_
  refine x_get_5_1 hG dX5_readBorder_9 (rfl : kd 1 = 5) hin_X5_readBorder_X5 (List.mem_of_getElem? (i := 1) rfl) ?_
  refine x_iconst (v := (0 : Int32)) hG dX5_readBorder_12 (by decide) ?_
  refine x_cVI4 hG dX5_readBorder_13 (fun ha => c_X5_readNumber ha h) gX5_readBorder_X5_readNumber rfl ⟨rfl, rfl⟩ hy_X5_readNumber ⟨Nat.le_of_ble_eq_true rfl, Nat.le_of_ble_eq_true rfl⟩ (kd_lt (rfl : kd 1 = 5) (by decide)) (fun _ => xc_5 (rfl : kd 1 = 5)) rfl (Nat.le_of_ble_eq_true rfl) (fun z4 M5 h => ?_)
  refine x_if_ne (tgt := 21) hG dX5_readBorder_16 (by decide) (fun hc6 => ?_) (fun hc6 => ?_)
  · have h := h.1 hc6
    refine x_aload_n hG dX5_readBorder_21 rfl rfl ?_
    refine x_iconst (v := (0 : Int32)) hG dX5_readBorder_22 (by decide) ?_
    refine x_aload_n hG dX5_readBorder_23 rfl rfl ?_
    refine x_cVI0 hG dX5_readBorder_24 (fun ha => c_X2_yards ha h) gX5_readBorder_X2_yards rfl ⟨rfl, rfl⟩ hy_X2_yards ⟨Nat.le_of_ble_eq_true rfl, Nat.le_of_ble_eq_true rfl⟩ (kd_lt hk1 (by decide)) (fun _ => xc_2 hk1) rfl (Nat.le_of_ble_eq_true rfl) (fun z7 M8 h => ?_)
    refine x_iconst (v := (1 : Int32)) hG dX5_readBorder_27 (by decide) ?_
    refine x_isub hG dX5_readBorder_28 ?_
    refine x_aload_n hG dX5_readBorder_29 rfl rfl ?_
    refine x_get_5_1 hG dX5_readBorder_30 (rfl : kd 1 = 5) hin_X5_readBorder_X5 (List.mem_of_getElem? (i := 1) rfl) ?_
    refine x_iconst (v := (1 : Int32)) hG dX5_readBorder_33 (by decide) ?_
    refine x_cVI4 hG dX5_readBorder_34 (fun ha => c_X5_readNumber ha h) gX5_readBorder_X5_readNumber rfl ⟨rfl, rfl⟩ hy_X5_readNumber ⟨Nat.le_of_ble_eq_true rfl, Nat.le_of_ble_eq_true rfl⟩ (kd_lt (rfl : kd 1 = 5) (by decide)) (fun _ => xc_5 (rfl : kd 1 = 5)) rfl (Nat.le_of_ble_eq_true rfl) (fun z9 M10 h => ?_)
    refine x_if_ne (tgt := 42) hG dX5_readBorder_37 (by decide) (fun hc11 => ?_) (fun hc11 => ?_)
    · have h := h.1 hc11
      refine x_aload_n hG dX5_readBorder_42 rfl rfl ?_
      refine x_aload_n hG dX5_readBorder_43 rfl rfl ?_
      refine x_get_5_1 hG dX5_readBorder_44 (rfl : kd 1 = 5) hin_X5_readBorder_X5 (List.mem_of_getElem? (i := 1) rfl) ?_
      refine x_iconst (v := (0 : Int32)) hG dX5_readBorder_47 (by decide) ?_
      refine x_iaload hG dX5_readBorder_48 (kf_5_1 (rfl : kd 1 = 5)).1 (x_inE (kf_5_1 (rfl : kd 1 = 5)).2 (x_inC (by decide))) ?_
      refine x_aload_n hG dX5_readBorder_49 rfl rfl ?_
      refine x_get_5_1 hG dX5_readBorder_50 (rfl : kd 1 = 5) hin_X5_readBorder_X5 (List.mem_of_getElem? (i := 1) rfl) ?_
      refine x_iconst (v := (1 : Int32)) hG dX5_readBorder_53 (by decide) ?_
      refine x_iaload hG dX5_readBorder_54 (kf_5_1 (rfl : kd 1 = 5)).1 (x_inE (kf_5_1 (rfl : kd 1 = 5)).2 (x_inC (by decide))) ?_
      refine x_cVI2 hG dX5_readBorder_55 (fun ha => c_X2_borderOf ha h) gX5_readBorder_X2_borderOf rfl ⟨rfl, rfl⟩ hy_X2_borderOf ⟨Nat.le_of_ble_eq_true rfl, Nat.le_of_ble_eq_true rfl⟩ (kd_lt hk1 (by decide)) (fun _ => xc_2 hk1) rfl (Nat.le_of_ble_eq_true rfl) (fun z12 M13 h => ?_)
      refine x_istore_n hG dX5_readBorder_58 rfl (Nat.le_of_ble_eq_true rfl) rfl ?_
      refine x_iload_n hG dX5_readBorder_59 rfl rfl ?_
      refine x_if_lt (tgt := 88) hG dX5_readBorder_60 (by decide) (fun hc14 => ?_) (fun hc14 => ?_)
      · have h := h.1 hc14
        refine x_iconst (v := (0 : Int32)) hG dX5_readBorder_88 (by decide) ?_
        exact x_iret hG hQ dX5_readBorder_89 rfl h
      · have h := h.2 hc14
        refine x_aload_n hG dX5_readBorder_63 rfl rfl ?_
        refine x_iconst (v := (0 : Int32)) hG dX5_readBorder_64 (by decide) ?_
        refine x_iload_n hG dX5_readBorder_65 rfl rfl ?_
        refine x_cSN1 hG dX5_readBorder_66 (fun _ _ _ _ h => h.2.1) (List.mem_of_getElem? (i := 117) rfl) (List.mem_of_getElem? (i := 96) rfl) (fun ha => c_X8_mostOf ha h) gX5_readBorder_X8_mostOf_n84 rfl ⟨rfl, rfl⟩ hy_X8_mostOf ⟨Nat.le_of_ble_eq_true rfl, Nat.le_of_ble_eq_true rfl⟩ (Nat.le_of_ble_eq_true rfl) (fun z15 M16 h => ?_)
        refine x_aload_n hG dX5_readBorder_69 rfl rfl ?_
        refine x_get_2_4 hG dX5_readBorder_70 hk1 hin_X5_readBorder_X2 (List.mem_of_getElem? (i := 2) rfl) ?_
        refine x_iload_n hG dX5_readBorder_73 rfl rfl ?_
        refine x_cVR1 hG dX5_readBorder_74 (fun ha => c_X0_rowOf ha h) gX5_readBorder_X0_rowOf rfl ⟨rfl, rfl⟩ hy_X0_rowOf ⟨Nat.le_of_ble_eq_true rfl, Nat.le_of_ble_eq_true rfl⟩ (kd_lt (kf_2_4 hk1).1 (by decide)) (fun _ => xc_0 (kf_2_4 hk1).1) rfl (Nat.le_of_ble_eq_true rfl) (fun z17 M18 h => ?_)
        refine x_iload_n hG dX5_readBorder_77 rfl rfl ?_
        refine x_cVI4 hG dX5_readBorder_78 (fun ha => c_X5_readNumber ha h) gX5_readBorder_X5_readNumber rfl ⟨rfl, rfl⟩ hy_X5_readNumber ⟨Nat.le_of_ble_eq_true rfl, Nat.le_of_ble_eq_true rfl⟩ (kd_lt (rfl : kd 1 = 5) (by decide)) (fun _ => xc_5 (rfl : kd 1 = 5)) rfl (Nat.le_of_ble_eq_true rfl) (fun z19 M20 h => ?_)
        refine x_if_eq (tgt := 88) hG dX5_readBorder_81 (by decide) (fun hc21 => ?_) (fun hc21 => ?_)
        · have h := h.1 hc21
          refine x_iconst (v := (0 : Int32)) hG dX5_readBorder_88 (by decide) ?_
          exact x_iret hG hQ dX5_readBorder_89 rfl h
        · have h := h.2 hc21
          refine x_iconst (v := (1 : Int32)) hG dX5_readBorder_84 (by decide) ?_
          refine x_goto (tgt := 89) hG dX5_readBorder_85 (by decide) ?_
          exact x_iret hG hQ dX5_readBorder_89 rfl h
    · have h := h.2 hc11
      refine x_iconst (v := (0 : Int32)) hG dX5_readBorder_40 (by decide) ?_
      exact x_iret hG hQ dX5_readBorder_41 rfl h
  · have h := h.2 hc6
    refine x_iconst (v := (0 : Int32)) hG dX5_readBorder_19 (by decide) ?_
    exact x_iret hG hQ dX5_readBorder_20 rfl h
abbrev rm_X5_readWind : Room := { frames := 8, cells := 0, slots := 0, locals := 171 }
theorem hy_X5_readWind : yX5_readWind.cls = RX5 ∧ yX5_readWind.cls ≠ "java/lang/invoke/MethodHandle" ∧ yX5_readWind.cls ≠ "java/lang/invoke/VarHandle" ∧ (parseMethodDescriptor yX5_readWind.desc).map (fun d => d.parameters.length) = some 1 := by decide +kernel
theorem hin_X5_readWind_X0 : ∀ w ∈ wsX00, w ∈ wsX5_readWind := fun _ h => List.mem_cons_of_mem _ (List.mem_append_left _ (List.mem_append_right _ h))
theorem hin_X5_readWind_X5 : ∀ w ∈ wsX50, w ∈ wsX5_readWind := fun _ h => List.mem_cons_of_mem _ (List.mem_append_left _ (List.mem_append_left _ (List.mem_append_right _ h)))
set_option maxRecDepth 100000 in
set_option maxHeartbeats 4000000 in
theorem k_X5_readWind_92 {G : xG} {post : Int32 → xMem → Prop} (hG : xOk G cX5_readWind RX5 wsX5_readWind rm_X5_readWind) (hQ : xRetI G post .boolean) : ∀ (M : xMem) (p1 : Nat) (p3 : Int32), b_X5_readWind_92 post M p1 p3 → xW G M [none, some (.ref (xa G p1)), none, some (.int p3)] [] 92 := by
  intro M p1 p3 h
  unfold b_X5_readWind_92 at h
  refine x_aload_n hG dX5_readWind_92 rfl rfl ?_
  refine x_iload_n hG dX5_readWind_93 rfl rfl ?_
  obtain ⟨hk1, h⟩ := h
  have h := h _ rfl
  refine x_put_0_2 hG dX5_readWind_94 hk1 hin_X5_readWind_X0 (List.mem_of_getElem? (i := 3) rfl) ?_
  refine x_goto (tgt := 105) hG dX5_readWind_97 (by decide) ?_
  refine x_iconst (v := (1 : Int32)) hG dX5_readWind_105 (by decide) ?_
  exact x_iret hG hQ dX5_readWind_106 rfl h
set_option maxRecDepth 100000 in
set_option maxHeartbeats 4000000 in
theorem k_X5_readWind_79 {G : xG} {post : Int32 → xMem → Prop} (hG : xOk G cX5_readWind RX5 wsX5_readWind rm_X5_readWind) (hQ : xRetI G post .boolean) : ∀ (M : xMem) (p1 : Nat) (p2 : Int32) (s0 : Int32), b_X5_readWind_79 post M p1 p2 s0 → xW G M [none, some (.ref (xa G p1)), some (.int p2), none] [.int s0] 79 := by
  intro M p1 p2 s0 h
  unfold b_X5_readWind_79 at h
  refine x_istore_n hG dX5_readWind_79 rfl (Nat.le_of_ble_eq_true rfl) rfl ?_
  refine x_iload_n hG dX5_readWind_80 rfl rfl ?_
  refine x_bipush (v := (8 : Int32)) hG dX5_readWind_81 (by decide) ?_
  refine x_icmp_eq (tgt := 92) hG dX5_readWind_83 (by decide) (fun hc1 => ?_) (fun hc1 => ?_)
  · have h := h.1 hc1
    refine x_keep [false, true, false, true] rfl ?_
    exact k_X5_readWind_92 hG hQ _ _ _ h
  · have h := h.2 hc1
    refine x_iload_n hG dX5_readWind_86 rfl rfl ?_
    refine x_bipush (v := (9 : Int32)) hG dX5_readWind_87 (by decide) ?_
    refine x_icmp_ne (tgt := 100) hG dX5_readWind_89 (by decide) (fun hc2 => ?_) (fun hc2 => ?_)
    · have h := h.1 hc2
      refine x_aload_n hG dX5_readWind_100 rfl rfl ?_
      refine x_iload_n hG dX5_readWind_101 rfl rfl ?_
      obtain ⟨hk3, h⟩ := h
      have h := h _ rfl
      refine x_put_0_3 hG dX5_readWind_102 hk3 hin_X5_readWind_X0 (List.mem_of_getElem? (i := 4) rfl) ?_
      refine x_iconst (v := (1 : Int32)) hG dX5_readWind_105 (by decide) ?_
      exact x_iret hG hQ dX5_readWind_106 rfl h
    · have h := h.2 hc2
      refine x_keep [false, true, false, true] rfl ?_
      exact k_X5_readWind_92 hG hQ _ _ _ h
set_option maxRecDepth 100000 in
set_option maxHeartbeats 4000000 in
theorem k_X5_readWind_63 {G : xG} {post : Int32 → xMem → Prop} (hG : xOk G cX5_readWind RX5 wsX5_readWind rm_X5_readWind) (hQ : xRetI G post .boolean) : ∀ (M : xMem) (p1 : Nat) (p2 : Int32), b_X5_readWind_63 post M p1 p2 → xW G M [some (.ref (xa G 1)), some (.ref (xa G p1)), some (.int p2), none] [] 63 := by
  intro M p1 p2 h
  unfold b_X5_readWind_63 at h
  refine x_aload_n hG dX5_readWind_63 rfl rfl ?_
  refine x_get_5_1 hG dX5_readWind_64 (rfl : kd 1 = 5) hin_X5_readWind_X5 (List.mem_of_getElem? (i := 2) rfl) ?_
  refine x_iconst (v := (0 : Int32)) hG dX5_readWind_67 (by decide) ?_
  refine x_iaload hG dX5_readWind_68 (kf_5_1 (rfl : kd 1 = 5)).1 (x_inE (kf_5_1 (rfl : kd 1 = 5)).2 (x_inC (by decide))) ?_
  refine x_goto (tgt := 79) hG dX5_readWind_69 (by decide) ?_
  refine x_keep [false, true, true, false] rfl ?_
  exact k_X5_readWind_79 hG hQ _ _ _ _ h
set_option maxRecDepth 100000 in
set_option maxHeartbeats 4000000 in
theorem k_X5_readWind_35 {G : xG} {post : Int32 → xMem → Prop} (hG : xOk G cX5_readWind RX5 wsX5_readWind rm_X5_readWind) (hQ : xRetI G post .boolean) : ∀ (M : xMem) (p1 : Nat) (p2 : Int32), b_X5_readWind_35 post M p1 p2 → xW G M [some (.ref (xa G 1)), some (.ref (xa G p1)), some (.int p2), none] [] 35 := by
  intro M p1 p2 h
  unfold b_X5_readWind_35 at h
  refine x_aload_n hG dX5_readWind_35 rfl rfl ?_
  refine x_iconst (v := (0 : Int32)) hG dX5_readWind_36 (by decide) ?_
  refine x_iconst (v := (2 : Int32)) hG dX5_readWind_37 (by decide) ?_
  refine x_aload_n hG dX5_readWind_38 rfl rfl ?_
  refine x_get_5_1 hG dX5_readWind_39 (rfl : kd 1 = 5) hin_X5_readWind_X5 (List.mem_of_getElem? (i := 2) rfl) ?_
  refine x_iconst (v := (0 : Int32)) hG dX5_readWind_42 (by decide) ?_
  refine x_cVI4 hG dX5_readWind_43 (fun ha => c_X5_readNumber ha h) gX5_readWind_X5_readNumber rfl ⟨rfl, rfl⟩ hy_X5_readNumber ⟨Nat.le_of_ble_eq_true rfl, Nat.le_of_ble_eq_true rfl⟩ (kd_lt (rfl : kd 1 = 5) (by decide)) (fun _ => xc_5 (rfl : kd 1 = 5)) rfl (Nat.le_of_ble_eq_true rfl) (fun z1 M2 h => ?_)
  refine x_if_ne (tgt := 51) hG dX5_readWind_46 (by decide) (fun hc3 => ?_) (fun hc3 => ?_)
  · have h := h.1 hc3
    refine x_iload_n hG dX5_readWind_51 rfl rfl ?_
    refine x_bipush (v := (8 : Int32)) hG dX5_readWind_52 (by decide) ?_
    refine x_icmp_eq (tgt := 63) hG dX5_readWind_54 (by decide) (fun hc4 => ?_) (fun hc4 => ?_)
    · have h := h.1 hc4
      refine x_keep [true, true, true, false] rfl ?_
      exact k_X5_readWind_63 hG hQ _ _ _ h
    · have h := h.2 hc4
      refine x_iload_n hG dX5_readWind_57 rfl rfl ?_
      refine x_bipush (v := (10 : Int32)) hG dX5_readWind_58 (by decide) ?_
      refine x_icmp_ne (tgt := 72) hG dX5_readWind_60 (by decide) (fun hc5 => ?_) (fun hc5 => ?_)
      · have h := h.1 hc5
        refine x_aload_n hG dX5_readWind_72 rfl rfl ?_
        refine x_get_5_1 hG dX5_readWind_73 (rfl : kd 1 = 5) hin_X5_readWind_X5 (List.mem_of_getElem? (i := 2) rfl) ?_
        refine x_iconst (v := (0 : Int32)) hG dX5_readWind_76 (by decide) ?_
        refine x_iaload hG dX5_readWind_77 (kf_5_1 (rfl : kd 1 = 5)).1 (x_inE (kf_5_1 (rfl : kd 1 = 5)).2 (x_inC (by decide))) ?_
        refine x_ineg hG dX5_readWind_78 ?_
        refine x_keep [false, true, true, false] rfl ?_
        exact k_X5_readWind_79 hG hQ _ _ _ _ h
      · have h := h.2 hc5
        refine x_keep [true, true, true, false] rfl ?_
        exact k_X5_readWind_63 hG hQ _ _ _ h
  · have h := h.2 hc3
    refine x_iconst (v := (0 : Int32)) hG dX5_readWind_49 (by decide) ?_
    exact x_iret hG hQ dX5_readWind_50 rfl h
set_option maxRecDepth 100000 in
set_option maxHeartbeats 4000000 in
theorem c_X5_readWind {l : Launch} {a : Nat → Nat} {M : xMem} {p1 : Nat} {post : Int32 → xMem → Prop} (ha : xInj a) (h : w_X5_readWind M p1 post) : ∀ D cs sz, xMetI l yX5_readWind wsX5_readWind rm_X5_readWind D a cs sz M [.ref (a 1), .ref (a p1)] post := by
  intro D cs sz
  unfold w_X5_readWind at h
  refine x_metI (ty := .boolean) [some (.ref (a 1)), some (.ref (a p1)), none, none] (by decide) rfl rfl (Nat.le_of_ble_eq_true rfl) rfl rfl ha D cs sz rfl (fun G e1 e2 hG hQ => ?_)
  subst e1
  subst e2
  refine x_aload_n hG dX5_readWind_0 rfl rfl ?_
  refine x_cVV0 hG dX5_readWind_1 (fun ha => c_X5_nextToken ha h) gX5_readWind_X5_nextToken rfl ⟨rfl, rfl⟩ hy_X5_nextToken ⟨Nat.le_of_ble_eq_true rfl, Nat.le_of_ble_eq_true rfl⟩ (kd_lt (rfl : kd 1 = 5) (by decide)) (fun _ => xc_5 (rfl : kd 1 = 5)) rfl (Nat.le_of_ble_eq_true rfl) (fun M2 h => ?_)
  refine x_aload_n hG dX5_readWind_4 rfl rfl ?_
  refine x_get_5_4 hG dX5_readWind_5 (rfl : kd 1 = 5) hin_X5_readWind_X5 (List.mem_of_getElem? (i := 1) rfl) ?_
  refine x_istore_n hG dX5_readWind_8 rfl (Nat.le_of_ble_eq_true rfl) rfl ?_
  refine x_iload_n hG dX5_readWind_9 rfl rfl ?_
  refine x_bipush (v := (8 : Int32)) hG dX5_readWind_10 (by decide) ?_
  refine x_icmp_eq (tgt := 35) hG dX5_readWind_12 (by decide) (fun hc3 => ?_) (fun hc3 => ?_)
  · have h := h.1 hc3
    refine x_keep [true, true, true, false] rfl ?_
    exact k_X5_readWind_35 hG hQ _ _ _ h
  · have h := h.2 hc3
    refine x_iload_n hG dX5_readWind_15 rfl rfl ?_
    refine x_bipush (v := (9 : Int32)) hG dX5_readWind_16 (by decide) ?_
    refine x_icmp_eq (tgt := 35) hG dX5_readWind_18 (by decide) (fun hc4 => ?_) (fun hc4 => ?_)
    · have h := h.1 hc4
      refine x_keep [true, true, true, false] rfl ?_
      exact k_X5_readWind_35 hG hQ _ _ _ h
    · have h := h.2 hc4
      refine x_iload_n hG dX5_readWind_21 rfl rfl ?_
      refine x_bipush (v := (10 : Int32)) hG dX5_readWind_22 (by decide) ?_
      refine x_icmp_eq (tgt := 35) hG dX5_readWind_24 (by decide) (fun hc5 => ?_) (fun hc5 => ?_)
      · have h := h.1 hc5
        refine x_keep [true, true, true, false] rfl ?_
        exact k_X5_readWind_35 hG hQ _ _ _ h
      · have h := h.2 hc5
        refine x_iload_n hG dX5_readWind_27 rfl rfl ?_
        refine x_bipush (v := (11 : Int32)) hG dX5_readWind_28 (by decide) ?_
        refine x_icmp_eq (tgt := 35) hG dX5_readWind_30 (by decide) (fun hc6 => ?_) (fun hc6 => ?_)
        · have h := h.1 hc6
          refine x_keep [true, true, true, false] rfl ?_
          exact k_X5_readWind_35 hG hQ _ _ _ h
        · have h := h.2 hc6
          refine x_iconst (v := (0 : Int32)) hG dX5_readWind_33 (by decide) ?_
          exact x_iret hG hQ dX5_readWind_34 rfl h
abbrev rm_X5_readWorker : Room := { frames := 8, cells := 0, slots := 0, locals := 171 }
theorem hy_X5_readWorker : yX5_readWorker.cls = RX5 ∧ yX5_readWorker.cls ≠ "java/lang/invoke/MethodHandle" ∧ yX5_readWorker.cls ≠ "java/lang/invoke/VarHandle" ∧ (parseMethodDescriptor yX5_readWorker.desc).map (fun d => d.parameters.length) = some 1 := by decide +kernel
theorem hin_X5_readWorker_X2 : ∀ w ∈ wsX20, w ∈ wsX5_readWorker := fun _ h => List.mem_cons_of_mem _ (List.mem_append_left _ (List.mem_append_left _ (List.mem_append_right _ h)))
set_option maxRecDepth 100000 in
set_option maxHeartbeats 4000000 in
theorem c_X5_readWorker {l : Launch} {a : Nat → Nat} {M : xMem} {p1 : Nat} {post : Int32 → xMem → Prop} (ha : xInj a) (h : w_X5_readWorker M p1 post) : ∀ D cs sz, xMetI l yX5_readWorker wsX5_readWorker rm_X5_readWorker D a cs sz M [.ref (a 1), .ref (a p1)] post := by
  intro D cs sz
  unfold w_X5_readWorker at h
  refine x_metI (ty := .boolean) [some (.ref (a 1)), some (.ref (a p1)), none] (by decide) rfl rfl (Nat.le_of_ble_eq_true rfl) rfl rfl ha D cs sz rfl (fun G e1 e2 hG hQ => ?_)
  subst e1
  subst e2
  refine x_aload_n hG dX5_readWorker_0 rfl rfl ?_
  obtain ⟨hk1, h⟩ := h
  refine x_get_2_2 hG dX5_readWorker_1 hk1 hin_X5_readWorker_X2 (List.mem_of_getElem? (i := 1) rfl) ?_
  refine x_bipush (v := (6 : Int32)) hG dX5_readWorker_4 (by decide) ?_
  refine x_icmp_lt (tgt := 11) hG dX5_readWorker_6 (by decide) (fun hc2 => ?_) (fun hc2 => ?_)
  · have h := h.1 hc2
    refine x_aload_n hG dX5_readWorker_11 rfl rfl ?_
    refine x_get_2_5 hG dX5_readWorker_12 hk1 hin_X5_readWorker_X2 (List.mem_of_getElem? (i := 2) rfl) ?_
    refine x_aload_n hG dX5_readWorker_15 rfl rfl ?_
    refine x_get_2_2 hG dX5_readWorker_16 hk1 hin_X5_readWorker_X2 (List.mem_of_getElem? (i := 1) rfl) ?_
    obtain ⟨hi3, h⟩ := h
    refine x_aaload11 hG dX5_readWorker_19 (kf_2_5 hk1).1 (x_inE (kf_2_5 hk1).2 hi3) ?_
    refine x_astore_n hG dX5_readWorker_20 rfl (Nat.le_of_ble_eq_true rfl) rfl ?_
    refine x_aload_n hG dX5_readWorker_21 rfl rfl ?_
    refine x_dup hG dX5_readWorker_22 rfl ?_
    refine x_get_2_2 hG dX5_readWorker_23 hk1 hin_X5_readWorker_X2 (List.mem_of_getElem? (i := 1) rfl) ?_
    refine x_iconst (v := (1 : Int32)) hG dX5_readWorker_26 (by decide) ?_
    refine x_iadd hG dX5_readWorker_27 ?_
    have h := h _ rfl
    refine x_put_2_2 hG dX5_readWorker_28 hk1 hin_X5_readWorker_X2 (List.mem_of_getElem? (i := 1) rfl) ?_
    refine x_aload_n hG dX5_readWorker_31 rfl rfl ?_
    refine x_iconst (v := (0 : Int32)) hG dX5_readWorker_32 (by decide) ?_
    refine x_aload_n hG dX5_readWorker_33 rfl rfl ?_
    refine x_cVI0 hG dX5_readWorker_34 (fun ha => c_X2_yards ha h) gX5_readWorker_X2_yards rfl ⟨rfl, rfl⟩ hy_X2_yards ⟨Nat.le_of_ble_eq_true rfl, Nat.le_of_ble_eq_true rfl⟩ (kd_lt hk1 (by decide)) (fun _ => xc_2 hk1) rfl (Nat.le_of_ble_eq_true rfl) (fun z5 M6 h => ?_)
    refine x_iconst (v := (1 : Int32)) hG dX5_readWorker_37 (by decide) ?_
    refine x_isub hG dX5_readWorker_38 ?_
    refine x_aload_n hG dX5_readWorker_39 rfl rfl ?_
    refine x_iconst (v := (0 : Int32)) hG dX5_readWorker_40 (by decide) ?_
    refine x_cVI4 hG dX5_readWorker_41 (fun ha => c_X5_readNumber ha h) gX5_readWorker_X5_readNumber rfl ⟨rfl, rfl⟩ hy_X5_readNumber ⟨Nat.le_of_ble_eq_true rfl, Nat.le_of_ble_eq_true rfl⟩ (kd_lt (rfl : kd 1 = 5) (by decide)) (fun _ => xc_5 (rfl : kd 1 = 5)) rfl (Nat.le_of_ble_eq_true rfl) (fun z7 M8 h => ?_)
    refine x_if_eq (tgt := 86) hG dX5_readWorker_44 (by decide) (fun hc9 => ?_) (fun hc9 => ?_)
    · have h := h.1 hc9
      refine x_iconst (v := (0 : Int32)) hG dX5_readWorker_86 (by decide) ?_
      exact x_iret hG hQ dX5_readWorker_87 rfl h
    · have h := h.2 hc9
      refine x_aload_n hG dX5_readWorker_47 rfl rfl ?_
      refine x_iconst (v := (1 : Int32)) hG dX5_readWorker_48 (by decide) ?_
      refine x_bipush (v := (99 : Int32)) hG dX5_readWorker_49 (by decide) ?_
      refine x_aload_n hG dX5_readWorker_51 rfl rfl ?_
      refine x_iconst (v := (1 : Int32)) hG dX5_readWorker_52 (by decide) ?_
      refine x_cVI4 hG dX5_readWorker_53 (fun ha => c_X5_readNumber ha h) gX5_readWorker_X5_readNumber rfl ⟨rfl, rfl⟩ hy_X5_readNumber ⟨Nat.le_of_ble_eq_true rfl, Nat.le_of_ble_eq_true rfl⟩ (kd_lt (rfl : kd 1 = 5) (by decide)) (fun _ => xc_5 (rfl : kd 1 = 5)) rfl (Nat.le_of_ble_eq_true rfl) (fun z10 M11 h => ?_)
      refine x_if_eq (tgt := 86) hG dX5_readWorker_56 (by decide) (fun hc12 => ?_) (fun hc12 => ?_)
      · have h := h.1 hc12
        refine x_iconst (v := (0 : Int32)) hG dX5_readWorker_86 (by decide) ?_
        exact x_iret hG hQ dX5_readWorker_87 rfl h
      · have h := h.2 hc12
        refine x_aload_n hG dX5_readWorker_59 rfl rfl ?_
        refine x_iconst (v := (0 : Int32)) hG dX5_readWorker_60 (by decide) ?_
        refine x_iconst (v := (4 : Int32)) hG dX5_readWorker_61 (by decide) ?_
        refine x_aload_n hG dX5_readWorker_62 rfl rfl ?_
        refine x_iconst (v := (2 : Int32)) hG dX5_readWorker_63 (by decide) ?_
        refine x_cVI4 hG dX5_readWorker_64 (fun ha => c_X5_readNumber ha h) gX5_readWorker_X5_readNumber rfl ⟨rfl, rfl⟩ hy_X5_readNumber ⟨Nat.le_of_ble_eq_true rfl, Nat.le_of_ble_eq_true rfl⟩ (kd_lt (rfl : kd 1 = 5) (by decide)) (fun _ => xc_5 (rfl : kd 1 = 5)) rfl (Nat.le_of_ble_eq_true rfl) (fun z13 M14 h => ?_)
        refine x_if_eq (tgt := 86) hG dX5_readWorker_67 (by decide) (fun hc15 => ?_) (fun hc15 => ?_)
        · have h := h.1 hc15
          refine x_iconst (v := (0 : Int32)) hG dX5_readWorker_86 (by decide) ?_
          exact x_iret hG hQ dX5_readWorker_87 rfl h
        · have h := h.2 hc15
          refine x_aload_n hG dX5_readWorker_70 rfl rfl ?_
          refine x_iconst (v := (0 : Int32)) hG dX5_readWorker_71 (by decide) ?_
          refine x_bipush (v := (99 : Int32)) hG dX5_readWorker_72 (by decide) ?_
          refine x_aload_n hG dX5_readWorker_74 rfl rfl ?_
          refine x_iconst (v := (3 : Int32)) hG dX5_readWorker_75 (by decide) ?_
          refine x_cVI4 hG dX5_readWorker_76 (fun ha => c_X5_readNumber ha h) gX5_readWorker_X5_readNumber rfl ⟨rfl, rfl⟩ hy_X5_readNumber ⟨Nat.le_of_ble_eq_true rfl, Nat.le_of_ble_eq_true rfl⟩ (kd_lt (rfl : kd 1 = 5) (by decide)) (fun _ => xc_5 (rfl : kd 1 = 5)) rfl (Nat.le_of_ble_eq_true rfl) (fun z16 M17 h => ?_)
          refine x_if_eq (tgt := 86) hG dX5_readWorker_79 (by decide) (fun hc18 => ?_) (fun hc18 => ?_)
          · have h := h.1 hc18
            refine x_iconst (v := (0 : Int32)) hG dX5_readWorker_86 (by decide) ?_
            exact x_iret hG hQ dX5_readWorker_87 rfl h
          · have h := h.2 hc18
            refine x_iconst (v := (1 : Int32)) hG dX5_readWorker_82 (by decide) ?_
            refine x_goto (tgt := 87) hG dX5_readWorker_83 (by decide) ?_
            exact x_iret hG hQ dX5_readWorker_87 rfl h
  · have h := h.2 hc2
    refine x_iconst (v := (0 : Int32)) hG dX5_readWorker_9 (by decide) ?_
    exact x_iret hG hQ dX5_readWorker_10 rfl h
abbrev rm_X5_readDeed : Room := { frames := 8, cells := 0, slots := 0, locals := 171 }
theorem hy_X5_readDeed : yX5_readDeed.cls = RX5 ∧ yX5_readDeed.cls ≠ "java/lang/invoke/MethodHandle" ∧ yX5_readDeed.cls ≠ "java/lang/invoke/VarHandle" ∧ (parseMethodDescriptor yX5_readDeed.desc).map (fun d => d.parameters.length) = some 1 := by decide +kernel
theorem hin_X5_readDeed_X2 : ∀ w ∈ wsX20, w ∈ wsX5_readDeed := fun _ h => List.mem_cons_of_mem _ (List.mem_append_left _ (List.mem_append_left _ (List.mem_append_right _ h)))
set_option maxRecDepth 100000 in
set_option maxHeartbeats 4000000 in
theorem c_X5_readDeed {l : Launch} {a : Nat → Nat} {M : xMem} {p1 : Nat} {post : Int32 → xMem → Prop} (ha : xInj a) (h : w_X5_readDeed M p1 post) : ∀ D cs sz, xMetI l yX5_readDeed wsX5_readDeed rm_X5_readDeed D a cs sz M [.ref (a 1), .ref (a p1)] post := by
  intro D cs sz
  unfold w_X5_readDeed at h
  refine x_metI (ty := .boolean) [some (.ref (a 1)), some (.ref (a p1)), none] (by decide) rfl rfl (Nat.le_of_ble_eq_true rfl) rfl rfl ha D cs sz rfl (fun G e1 e2 hG hQ => ?_)
  subst e1
  subst e2
  refine x_aload_n hG dX5_readDeed_0 rfl rfl ?_
  obtain ⟨hk1, h⟩ := h
  refine x_get_2_3 hG dX5_readDeed_1 hk1 hin_X5_readDeed_X2 (List.mem_of_getElem? (i := 1) rfl) ?_
  refine x_bipush (v := (8 : Int32)) hG dX5_readDeed_4 (by decide) ?_
  refine x_icmp_lt (tgt := 11) hG dX5_readDeed_6 (by decide) (fun hc2 => ?_) (fun hc2 => ?_)
  · have h := h.1 hc2
    refine x_aload_n hG dX5_readDeed_11 rfl rfl ?_
    refine x_get_2_6 hG dX5_readDeed_12 hk1 hin_X5_readDeed_X2 (List.mem_of_getElem? (i := 2) rfl) ?_
    refine x_aload_n hG dX5_readDeed_15 rfl rfl ?_
    refine x_get_2_3 hG dX5_readDeed_16 hk1 hin_X5_readDeed_X2 (List.mem_of_getElem? (i := 1) rfl) ?_
    obtain ⟨hi3, h⟩ := h
    refine x_aaload11 hG dX5_readDeed_19 (kf_2_6 hk1).1 (x_inE (kf_2_6 hk1).2 hi3) ?_
    refine x_astore_n hG dX5_readDeed_20 rfl (Nat.le_of_ble_eq_true rfl) rfl ?_
    refine x_aload_n hG dX5_readDeed_21 rfl rfl ?_
    refine x_dup hG dX5_readDeed_22 rfl ?_
    refine x_get_2_3 hG dX5_readDeed_23 hk1 hin_X5_readDeed_X2 (List.mem_of_getElem? (i := 1) rfl) ?_
    refine x_iconst (v := (1 : Int32)) hG dX5_readDeed_26 (by decide) ?_
    refine x_iadd hG dX5_readDeed_27 ?_
    have h := h _ rfl
    refine x_put_2_3 hG dX5_readDeed_28 hk1 hin_X5_readDeed_X2 (List.mem_of_getElem? (i := 1) rfl) ?_
    refine x_aload_n hG dX5_readDeed_31 rfl rfl ?_
    refine x_iconst (v := (0 : Int32)) hG dX5_readDeed_32 (by decide) ?_
    refine x_aload_n hG dX5_readDeed_33 rfl rfl ?_
    refine x_cVI0 hG dX5_readDeed_34 (fun ha => c_X2_yards ha h) gX5_readDeed_X2_yards rfl ⟨rfl, rfl⟩ hy_X2_yards ⟨Nat.le_of_ble_eq_true rfl, Nat.le_of_ble_eq_true rfl⟩ (kd_lt hk1 (by decide)) (fun _ => xc_2 hk1) rfl (Nat.le_of_ble_eq_true rfl) (fun z5 M6 h => ?_)
    refine x_iconst (v := (1 : Int32)) hG dX5_readDeed_37 (by decide) ?_
    refine x_isub hG dX5_readDeed_38 ?_
    refine x_aload_n hG dX5_readDeed_39 rfl rfl ?_
    refine x_iconst (v := (0 : Int32)) hG dX5_readDeed_40 (by decide) ?_
    refine x_cVI4 hG dX5_readDeed_41 (fun ha => c_X5_readNumber ha h) gX5_readDeed_X5_readNumber rfl ⟨rfl, rfl⟩ hy_X5_readNumber ⟨Nat.le_of_ble_eq_true rfl, Nat.le_of_ble_eq_true rfl⟩ (kd_lt (rfl : kd 1 = 5) (by decide)) (fun _ => xc_5 (rfl : kd 1 = 5)) rfl (Nat.le_of_ble_eq_true rfl) (fun z7 M8 h => ?_)
    refine x_if_eq (tgt := 101) hG dX5_readDeed_44 (by decide) (fun hc9 => ?_) (fun hc9 => ?_)
    · have h := h.1 hc9
      refine x_iconst (v := (0 : Int32)) hG dX5_readDeed_101 (by decide) ?_
      exact x_iret hG hQ dX5_readDeed_102 rfl h
    · have h := h.2 hc9
      refine x_aload_n hG dX5_readDeed_47 rfl rfl ?_
      refine x_iconst (v := (0 : Int32)) hG dX5_readDeed_48 (by decide) ?_
      refine x_bipush (v := (11 : Int32)) hG dX5_readDeed_49 (by decide) ?_
      refine x_aload_n hG dX5_readDeed_51 rfl rfl ?_
      refine x_iconst (v := (1 : Int32)) hG dX5_readDeed_52 (by decide) ?_
      refine x_cVI4 hG dX5_readDeed_53 (fun ha => c_X5_readNumber ha h) gX5_readDeed_X5_readNumber rfl ⟨rfl, rfl⟩ hy_X5_readNumber ⟨Nat.le_of_ble_eq_true rfl, Nat.le_of_ble_eq_true rfl⟩ (kd_lt (rfl : kd 1 = 5) (by decide)) (fun _ => xc_5 (rfl : kd 1 = 5)) rfl (Nat.le_of_ble_eq_true rfl) (fun z10 M11 h => ?_)
      refine x_if_eq (tgt := 101) hG dX5_readDeed_56 (by decide) (fun hc12 => ?_) (fun hc12 => ?_)
      · have h := h.1 hc12
        refine x_iconst (v := (0 : Int32)) hG dX5_readDeed_101 (by decide) ?_
        exact x_iret hG hQ dX5_readDeed_102 rfl h
      · have h := h.2 hc12
        refine x_aload_n hG dX5_readDeed_59 rfl rfl ?_
        refine x_aload_n hG dX5_readDeed_60 rfl rfl ?_
        refine x_iconst (v := (1 : Int32)) hG dX5_readDeed_61 (by decide) ?_
        refine x_iaload hG dX5_readDeed_62 (ke_2_6 hk1 (vp_lt hi3)).1 (x_inE (ke_2_6 hk1 (vp_lt hi3)).2 (x_inC (by decide))) ?_
        refine x_bipush (v := (11 : Int32)) hG dX5_readDeed_63 (by decide) ?_
        refine x_aload_n hG dX5_readDeed_65 rfl rfl ?_
        refine x_iconst (v := (2 : Int32)) hG dX5_readDeed_66 (by decide) ?_
        refine x_cVI4 hG dX5_readDeed_67 (fun ha => c_X5_readNumber ha h) gX5_readDeed_X5_readNumber rfl ⟨rfl, rfl⟩ hy_X5_readNumber ⟨Nat.le_of_ble_eq_true rfl, Nat.le_of_ble_eq_true rfl⟩ (kd_lt (rfl : kd 1 = 5) (by decide)) (fun _ => xc_5 (rfl : kd 1 = 5)) rfl (Nat.le_of_ble_eq_true rfl) (fun z13 M14 h => ?_)
        refine x_if_eq (tgt := 101) hG dX5_readDeed_70 (by decide) (fun hc15 => ?_) (fun hc15 => ?_)
        · have h := h.1 hc15
          refine x_iconst (v := (0 : Int32)) hG dX5_readDeed_101 (by decide) ?_
          exact x_iret hG hQ dX5_readDeed_102 rfl h
        · have h := h.2 hc15
          refine x_aload_n hG dX5_readDeed_73 rfl rfl ?_
          refine x_iconst (v := (0 : Int32)) hG dX5_readDeed_74 (by decide) ?_
          refine x_bipush (v := (99 : Int32)) hG dX5_readDeed_75 (by decide) ?_
          refine x_aload_n hG dX5_readDeed_77 rfl rfl ?_
          refine x_iconst (v := (3 : Int32)) hG dX5_readDeed_78 (by decide) ?_
          refine x_cVI4 hG dX5_readDeed_79 (fun ha => c_X5_readNumber ha h) gX5_readDeed_X5_readNumber rfl ⟨rfl, rfl⟩ hy_X5_readNumber ⟨Nat.le_of_ble_eq_true rfl, Nat.le_of_ble_eq_true rfl⟩ (kd_lt (rfl : kd 1 = 5) (by decide)) (fun _ => xc_5 (rfl : kd 1 = 5)) rfl (Nat.le_of_ble_eq_true rfl) (fun z16 M17 h => ?_)
          refine x_if_eq (tgt := 101) hG dX5_readDeed_82 (by decide) (fun hc18 => ?_) (fun hc18 => ?_)
          · have h := h.1 hc18
            refine x_iconst (v := (0 : Int32)) hG dX5_readDeed_101 (by decide) ?_
            exact x_iret hG hQ dX5_readDeed_102 rfl h
          · have h := h.2 hc18
            refine x_aload_n hG dX5_readDeed_85 rfl rfl ?_
            refine x_iconst (v := (0 : Int32)) hG dX5_readDeed_86 (by decide) ?_
            refine x_bipush (v := (99 : Int32)) hG dX5_readDeed_87 (by decide) ?_
            refine x_aload_n hG dX5_readDeed_89 rfl rfl ?_
            refine x_iconst (v := (4 : Int32)) hG dX5_readDeed_90 (by decide) ?_
            refine x_cVI4 hG dX5_readDeed_91 (fun ha => c_X5_readNumber ha h) gX5_readDeed_X5_readNumber rfl ⟨rfl, rfl⟩ hy_X5_readNumber ⟨Nat.le_of_ble_eq_true rfl, Nat.le_of_ble_eq_true rfl⟩ (kd_lt (rfl : kd 1 = 5) (by decide)) (fun _ => xc_5 (rfl : kd 1 = 5)) rfl (Nat.le_of_ble_eq_true rfl) (fun z19 M20 h => ?_)
            refine x_if_eq (tgt := 101) hG dX5_readDeed_94 (by decide) (fun hc21 => ?_) (fun hc21 => ?_)
            · have h := h.1 hc21
              refine x_iconst (v := (0 : Int32)) hG dX5_readDeed_101 (by decide) ?_
              exact x_iret hG hQ dX5_readDeed_102 rfl h
            · have h := h.2 hc21
              refine x_iconst (v := (1 : Int32)) hG dX5_readDeed_97 (by decide) ?_
              refine x_goto (tgt := 102) hG dX5_readDeed_98 (by decide) ?_
              exact x_iret hG hQ dX5_readDeed_102 rfl h
  · have h := h.2 hc2
    refine x_iconst (v := (0 : Int32)) hG dX5_readDeed_9 (by decide) ?_
    exact x_iret hG hQ dX5_readDeed_10 rfl h
abbrev rm_X5_readSemicolon : Room := { frames := 7, cells := 0, slots := 0, locals := 147 }
theorem hy_X5_readSemicolon : yX5_readSemicolon.cls = RX5 ∧ yX5_readSemicolon.cls ≠ "java/lang/invoke/MethodHandle" ∧ yX5_readSemicolon.cls ≠ "java/lang/invoke/VarHandle" ∧ (parseMethodDescriptor yX5_readSemicolon.desc).map (fun d => d.parameters.length) = some 0 := by decide +kernel
theorem hin_X5_readSemicolon_X5 : ∀ w ∈ wsX50, w ∈ wsX5_readSemicolon := fun _ h => List.mem_cons_of_mem _ (List.mem_append_left _ (List.mem_append_right _ h))
set_option maxRecDepth 100000 in
set_option maxHeartbeats 4000000 in
theorem c_X5_readSemicolon {l : Launch} {a : Nat → Nat} {M : xMem} {post : Int32 → xMem → Prop} (ha : xInj a) (h : w_X5_readSemicolon M post) : ∀ D cs sz, xMetI l yX5_readSemicolon wsX5_readSemicolon rm_X5_readSemicolon D a cs sz M [.ref (a 1)] post := by
  intro D cs sz
  unfold w_X5_readSemicolon at h
  refine x_metI (ty := .boolean) [some (.ref (a 1))] (by decide) rfl rfl (Nat.le_of_ble_eq_true rfl) rfl rfl ha D cs sz rfl (fun G e1 e2 hG hQ => ?_)
  subst e1
  subst e2
  refine x_aload_n hG dX5_readSemicolon_0 rfl rfl ?_
  refine x_cVV0 hG dX5_readSemicolon_1 (fun ha => c_X5_nextToken ha h) gX5_readSemicolon_X5_nextToken rfl ⟨rfl, rfl⟩ hy_X5_nextToken ⟨Nat.le_of_ble_eq_true rfl, Nat.le_of_ble_eq_true rfl⟩ (kd_lt (rfl : kd 1 = 5) (by decide)) (fun _ => xc_5 (rfl : kd 1 = 5)) rfl (Nat.le_of_ble_eq_true rfl) (fun M2 h => ?_)
  refine x_aload_n hG dX5_readSemicolon_4 rfl rfl ?_
  refine x_get_5_4 hG dX5_readSemicolon_5 (rfl : kd 1 = 5) hin_X5_readSemicolon_X5 (List.mem_of_getElem? (i := 1) rfl) ?_
  refine x_iconst (v := (3 : Int32)) hG dX5_readSemicolon_8 (by decide) ?_
  refine x_icmp_ne (tgt := 16) hG dX5_readSemicolon_9 (by decide) (fun hc3 => ?_) (fun hc3 => ?_)
  · have h := h.1 hc3
    refine x_iconst (v := (0 : Int32)) hG dX5_readSemicolon_16 (by decide) ?_
    exact x_iret hG hQ dX5_readSemicolon_17 rfl h
  · have h := h.2 hc3
    refine x_iconst (v := (1 : Int32)) hG dX5_readSemicolon_12 (by decide) ?_
    refine x_goto (tgt := 17) hG dX5_readSemicolon_13 (by decide) ?_
    exact x_iret hG hQ dX5_readSemicolon_17 rfl h
abbrev rm_X5_read : Room := { frames := 9, cells := 0, slots := 0, locals := 194 }
theorem hy_X5_read : yX5_read.cls = RX5 ∧ yX5_read.cls ≠ "java/lang/invoke/MethodHandle" ∧ yX5_read.cls ≠ "java/lang/invoke/VarHandle" ∧ (parseMethodDescriptor yX5_read.desc).map (fun d => d.parameters.length) = some 1 := by decide +kernel
theorem hin_X5_read_X2 : ∀ w ∈ wsX20, w ∈ wsX5_read := fun _ h => List.mem_cons_of_mem _ (List.mem_append_left _ (List.mem_append_left _ (List.mem_append_right _ h)))
theorem hin_X5_read_X5 : ∀ w ∈ wsX50, w ∈ wsX5_read := fun _ h => List.mem_cons_of_mem _ (List.mem_append_left _ (List.mem_append_left _ (List.mem_append_left _ (List.mem_append_right _ h))))
set_option maxRecDepth 100000 in
set_option maxHeartbeats 4000000 in
theorem k_X5_read_170 {G : xG} {post : Int32 → xMem → Prop} (hG : xOk G cX5_read RX5 wsX5_read rm_X5_read) (hQ : xRetI G post .int) {r11 : xMem → Nat → Int32 → Prop} (hr11 : ∀ (M : xMem) (p1 : Nat) (p2 : Int32), r11 M p1 p2 → xW G M [some (.ref (xa G 1)), some (.ref (xa G p1)), some (.int p2), none] [] 11) : ∀ (M : xMem) (p1 : Nat) (p2 : Int32) (p3 : Int32), b_X5_read_170 post r11 M p1 p2 p3 → xW G M [some (.ref (xa G 1)), some (.ref (xa G p1)), some (.int p2), some (.int p3)] [] 170 := by
  intro M p1 p2 p3 h
  unfold b_X5_read_170 at h
  refine x_iload_n hG dX5_read_170 rfl rfl ?_
  refine x_if_ne (tgt := 182) hG dX5_read_171 (by decide) (fun hc1 => ?_) (fun hc1 => ?_)
  · have h := h.1 hc1
    refine x_iinc (v := _) hG dX5_read_182 rfl (x_iincE (k := 1) (by decide)) (Nat.le_of_ble_eq_true rfl) rfl ?_
    refine x_goto (tgt := 11) hG dX5_read_185 (by decide) ?_
    refine x_keep [true, true, true, false] rfl ?_
    exact hr11 _ _ _ h
  · have h := h.2 hc1
    refine x_bipush (v := (-10 : Int32)) hG dX5_read_174 (by decide) ?_
    refine x_aload_n hG dX5_read_176 rfl rfl ?_
    refine x_get_5_3 hG dX5_read_177 (rfl : kd 1 = 5) hin_X5_read_X5 (List.mem_of_getElem? (i := 4) rfl) ?_
    refine x_isub hG dX5_read_180 ?_
    exact x_iret hG hQ dX5_read_181 rfl h
set_option maxRecDepth 100000 in
set_option maxHeartbeats 4000000 in
theorem k_X5_read_161 {G : xG} {post : Int32 → xMem → Prop} (hG : xOk G cX5_read RX5 wsX5_read rm_X5_read) (hQ : xRetI G post .int) {r11 : xMem → Nat → Int32 → Prop} (hr11 : ∀ (M : xMem) (p1 : Nat) (p2 : Int32), r11 M p1 p2 → xW G M [some (.ref (xa G 1)), some (.ref (xa G p1)), some (.int p2), none] [] 11) : ∀ (M : xMem) (p1 : Nat) (p2 : Int32) (p3 : Int32), b_X5_read_161 post r11 M p1 p2 p3 → xW G M [some (.ref (xa G 1)), some (.ref (xa G p1)), some (.int p2), some (.int p3)] [] 161 := by
  intro M p1 p2 p3 h
  unfold b_X5_read_161 at h
  refine x_iload_n hG dX5_read_161 rfl rfl ?_
  refine x_if_eq (tgt := 170) hG dX5_read_162 (by decide) (fun hc1 => ?_) (fun hc1 => ?_)
  · have h := h.1 hc1
    refine x_keep [true, true, true, true] rfl ?_
    exact k_X5_read_170 hG hQ hr11 _ _ _ _ h
  · have h := h.2 hc1
    refine x_aload_n hG dX5_read_165 rfl rfl ?_
    refine x_cVI0 hG dX5_read_166 (fun ha => c_X5_readSemicolon ha h) gX5_read_X5_readSemicolon rfl ⟨rfl, rfl⟩ hy_X5_readSemicolon ⟨Nat.le_of_ble_eq_true rfl, Nat.le_of_ble_eq_true rfl⟩ (kd_lt (rfl : kd 1 = 5) (by decide)) (fun _ => xc_5 (rfl : kd 1 = 5)) rfl (Nat.le_of_ble_eq_true rfl) (fun z2 M3 h => ?_)
    refine x_istore_n hG dX5_read_169 rfl (Nat.le_of_ble_eq_true rfl) rfl ?_
    refine x_keep [true, true, true, true] rfl ?_
    exact k_X5_read_170 hG hQ hr11 _ _ _ _ h
set_option maxRecDepth 100000 in
set_option maxHeartbeats 4000000 in
theorem k_X5_read_159 {G : xG} {post : Int32 → xMem → Prop} (hG : xOk G cX5_read RX5 wsX5_read rm_X5_read) (hQ : xRetI G post .int) {r11 : xMem → Nat → Int32 → Prop} (hr11 : ∀ (M : xMem) (p1 : Nat) (p2 : Int32), r11 M p1 p2 → xW G M [some (.ref (xa G 1)), some (.ref (xa G p1)), some (.int p2), none] [] 11) : ∀ (M : xMem) (p1 : Nat) (p2 : Int32), b_X5_read_159 post r11 M p1 p2 → xW G M [some (.ref (xa G 1)), some (.ref (xa G p1)), some (.int p2), none] [] 159 := by
  intro M p1 p2 h
  unfold b_X5_read_159 at h
  refine x_iconst (v := (0 : Int32)) hG dX5_read_159 (by decide) ?_
  refine x_istore_n hG dX5_read_160 rfl (Nat.le_of_ble_eq_true rfl) rfl ?_
  refine x_keep [true, true, true, true] rfl ?_
  exact k_X5_read_161 hG hQ hr11 _ _ _ _ h
set_option maxRecDepth 100000 in
set_option maxHeartbeats 4000000 in
theorem k_X5_read_105 {G : xG} {post : Int32 → xMem → Prop} (hG : xOk G cX5_read RX5 wsX5_read rm_X5_read) (hQ : xRetI G post .int) {r11 : xMem → Nat → Int32 → Prop} (hr11 : ∀ (M : xMem) (p1 : Nat) (p2 : Int32), r11 M p1 p2 → xW G M [some (.ref (xa G 1)), some (.ref (xa G p1)), some (.int p2), none] [] 11) : ∀ (M : xMem) (p1 : Nat) (p2 : Int32) (s0 : Int32), b_X5_read_105 post r11 M p1 p2 s0 → xW G M [some (.ref (xa G 1)), some (.ref (xa G p1)), some (.int p2), none] [.int s0] 105 := by
  intro M p1 p2 s0 h
  unfold b_X5_read_105 at h
  refine x_istore_n hG dX5_read_105 rfl (Nat.le_of_ble_eq_true rfl) rfl ?_
  refine x_goto (tgt := 161) hG dX5_read_106 (by decide) ?_
  refine x_keep [true, true, true, true] rfl ?_
  exact k_X5_read_161 hG hQ hr11 _ _ _ _ h
set_option maxRecDepth 100000 in
set_option maxHeartbeats 4000000 in
theorem k_X5_read_104 {G : xG} {post : Int32 → xMem → Prop} (hG : xOk G cX5_read RX5 wsX5_read rm_X5_read) (hQ : xRetI G post .int) {r11 : xMem → Nat → Int32 → Prop} (hr11 : ∀ (M : xMem) (p1 : Nat) (p2 : Int32), r11 M p1 p2 → xW G M [some (.ref (xa G 1)), some (.ref (xa G p1)), some (.int p2), none] [] 11) : ∀ (M : xMem) (p1 : Nat) (p2 : Int32), b_X5_read_104 post r11 M p1 p2 → xW G M [some (.ref (xa G 1)), some (.ref (xa G p1)), some (.int p2), none] [] 104 := by
  intro M p1 p2 h
  unfold b_X5_read_104 at h
  refine x_iconst (v := (0 : Int32)) hG dX5_read_104 (by decide) ?_
  refine x_keep [true, true, true, false] rfl ?_
  exact k_X5_read_105 hG hQ hr11 _ _ _ _ h
set_option maxRecDepth 100000 in
set_option maxHeartbeats 4000000 in
theorem k_X5_read_11 {G : xG} {post : Int32 → xMem → Prop} (hG : xOk G cX5_read RX5 wsX5_read rm_X5_read) (hQ : xRetI G post .int) : ∀ (M : xMem) (p1 : Nat) (p2 : Int32), xlp3 (b_X5_read_11 post) M p1 p2 → xW G M [some (.ref (xa G 1)), some (.ref (xa G p1)), some (.int p2), none] [] 11 := by
  refine xlp3_W (W := fun M p1 p2 => xW G M [some (.ref (xa G 1)), some (.ref (xa G p1)), some (.int p2), none] [] 11) (fun r11 hr11 => ?_)
  intro M p1 p2 h
  unfold b_X5_read_11 at h
  refine x_iload_n hG dX5_read_11 rfl rfl ?_
  refine x_sipush (v := (400 : Int32)) hG dX5_read_12 (by decide) ?_
  refine x_icmp_gt (tgt := 188) hG dX5_read_15 (by decide) (fun hc1 => ?_) (fun hc1 => ?_)
  · have h := h.1 hc1
    refine x_bipush (v := (-10 : Int32)) hG dX5_read_188 (by decide) ?_
    refine x_aload_n hG dX5_read_190 rfl rfl ?_
    refine x_get_5_3 hG dX5_read_191 (rfl : kd 1 = 5) hin_X5_read_X5 (List.mem_of_getElem? (i := 4) rfl) ?_
    refine x_isub hG dX5_read_194 ?_
    exact x_iret hG hQ dX5_read_195 rfl h
  · have h := h.2 hc1
    refine x_aload_n hG dX5_read_18 rfl rfl ?_
    refine x_cVV0 hG dX5_read_19 (fun ha => c_X5_nextToken ha h) gX5_read_X5_nextToken rfl ⟨rfl, rfl⟩ hy_X5_nextToken ⟨Nat.le_of_ble_eq_true rfl, Nat.le_of_ble_eq_true rfl⟩ (kd_lt (rfl : kd 1 = 5) (by decide)) (fun _ => xc_5 (rfl : kd 1 = 5)) rfl (Nat.le_of_ble_eq_true rfl) (fun M3 h => ?_)
    refine x_aload_n hG dX5_read_22 rfl rfl ?_
    refine x_get_5_4 hG dX5_read_23 (rfl : kd 1 = 5) hin_X5_read_X5 (List.mem_of_getElem? (i := 2) rfl) ?_
    refine x_if_ne (tgt := 31) hG dX5_read_26 (by decide) (fun hc4 => ?_) (fun hc4 => ?_)
    · have h := h.1 hc4
      refine x_aload_n hG dX5_read_31 rfl rfl ?_
      refine x_get_5_4 hG dX5_read_32 (rfl : kd 1 = 5) hin_X5_read_X5 (List.mem_of_getElem? (i := 2) rfl) ?_
      by_cases hc5 : (M3.1 1 4) = 4
      · have h := h.1 hc5
        refine x_tsIn (tgt := 88) hG dX5_read_35 4 (by rw [hc5]; decide) rfl rfl (by decide) ?_
        refine x_iload_n hG dX5_read_88 rfl rfl ?_
        refine x_if_ne (tgt := 104) hG dX5_read_89 (by decide) (fun hc6 => ?_) (fun hc6 => ?_)
        · have h := h.1 hc6
          refine x_keep [true, true, true, false] rfl ?_
          exact k_X5_read_104 hG hQ hr11 _ _ _ h
        · have h := h.2 hc6
          refine x_aload_n hG dX5_read_92 rfl rfl ?_
          refine x_aload_n hG dX5_read_93 rfl rfl ?_
          refine x_cVI1 hG dX5_read_94 (fun ha => c_X5_readSize ha h) gX5_read_X5_readSize rfl ⟨rfl, rfl⟩ hy_X5_readSize ⟨Nat.le_of_ble_eq_true rfl, Nat.le_of_ble_eq_true rfl⟩ (kd_lt (rfl : kd 1 = 5) (by decide)) (fun _ => xc_5 (rfl : kd 1 = 5)) rfl (Nat.le_of_ble_eq_true rfl) (fun z7 M8 h => ?_)
          refine x_if_eq (tgt := 104) hG dX5_read_97 (by decide) (fun hc9 => ?_) (fun hc9 => ?_)
          · have h := h.1 hc9
            refine x_keep [true, true, true, false] rfl ?_
            exact k_X5_read_104 hG hQ hr11 _ _ _ h
          · have h := h.2 hc9
            refine x_iconst (v := (1 : Int32)) hG dX5_read_100 (by decide) ?_
            refine x_goto (tgt := 105) hG dX5_read_101 (by decide) ?_
            refine x_keep [true, true, true, false] rfl ?_
            exact k_X5_read_105 hG hQ hr11 _ _ _ _ h
      have h := h.2
      by_cases hc10 : (M3.1 1 4) = 5
      · have h := h.1 hc10
        refine x_tsIn (tgt := 109) hG dX5_read_35 5 (by rw [hc10]; decide) rfl rfl (by decide) ?_
        refine x_aload_n hG dX5_read_109 rfl rfl ?_
        refine x_aload_n hG dX5_read_110 rfl rfl ?_
        refine x_iconst (v := (0 : Int32)) hG dX5_read_111 (by decide) ?_
        refine x_cVI2 hG dX5_read_112 (fun ha => c_X5_readBorder ha h) gX5_read_X5_readBorder rfl ⟨rfl, rfl⟩ hy_X5_readBorder ⟨Nat.le_of_ble_eq_true rfl, Nat.le_of_ble_eq_true rfl⟩ (kd_lt (rfl : kd 1 = 5) (by decide)) (fun _ => xc_5 (rfl : kd 1 = 5)) rfl (Nat.le_of_ble_eq_true rfl) (fun z11 M12 h => ?_)
        refine x_istore_n hG dX5_read_115 rfl (Nat.le_of_ble_eq_true rfl) rfl ?_
        refine x_goto (tgt := 161) hG dX5_read_116 (by decide) ?_
        refine x_keep [true, true, true, true] rfl ?_
        exact k_X5_read_161 hG hQ hr11 _ _ _ _ h
      have h := h.2
      by_cases hc13 : (M3.1 1 4) = 6
      · have h := h.1 hc13
        refine x_tsIn (tgt := 119) hG dX5_read_35 6 (by rw [hc13]; decide) rfl rfl (by decide) ?_
        refine x_aload_n hG dX5_read_119 rfl rfl ?_
        refine x_aload_n hG dX5_read_120 rfl rfl ?_
        refine x_iconst (v := (1 : Int32)) hG dX5_read_121 (by decide) ?_
        refine x_cVI2 hG dX5_read_122 (fun ha => c_X5_readBorder ha h) gX5_read_X5_readBorder rfl ⟨rfl, rfl⟩ hy_X5_readBorder ⟨Nat.le_of_ble_eq_true rfl, Nat.le_of_ble_eq_true rfl⟩ (kd_lt (rfl : kd 1 = 5) (by decide)) (fun _ => xc_5 (rfl : kd 1 = 5)) rfl (Nat.le_of_ble_eq_true rfl) (fun z14 M15 h => ?_)
        refine x_istore_n hG dX5_read_125 rfl (Nat.le_of_ble_eq_true rfl) rfl ?_
        refine x_goto (tgt := 161) hG dX5_read_126 (by decide) ?_
        refine x_keep [true, true, true, true] rfl ?_
        exact k_X5_read_161 hG hQ hr11 _ _ _ _ h
      have h := h.2
      by_cases hc16 : (M3.1 1 4) = 7
      · have h := h.1 hc16
        refine x_tsIn (tgt := 129) hG dX5_read_35 7 (by rw [hc16]; decide) rfl rfl (by decide) ?_
        refine x_aload_n hG dX5_read_129 rfl rfl ?_
        refine x_aload_n hG dX5_read_130 rfl rfl ?_
        obtain ⟨hk17, h⟩ := h
        refine x_get_2_4 hG dX5_read_131 hk17 hin_X5_read_X2 (List.mem_of_getElem? (i := 3) rfl) ?_
        refine x_cVI1 hG dX5_read_134 (fun ha => c_X5_readWind ha h) gX5_read_X5_readWind rfl ⟨rfl, rfl⟩ hy_X5_readWind ⟨Nat.le_of_ble_eq_true rfl, Nat.le_of_ble_eq_true rfl⟩ (kd_lt (rfl : kd 1 = 5) (by decide)) (fun _ => xc_5 (rfl : kd 1 = 5)) rfl (Nat.le_of_ble_eq_true rfl) (fun z18 M19 h => ?_)
        refine x_istore_n hG dX5_read_137 rfl (Nat.le_of_ble_eq_true rfl) rfl ?_
        refine x_goto (tgt := 161) hG dX5_read_138 (by decide) ?_
        refine x_keep [true, true, true, true] rfl ?_
        exact k_X5_read_161 hG hQ hr11 _ _ _ _ h
      have h := h.2
      by_cases hc20 : (M3.1 1 4) = 8
      · have h := h.1 hc20
        refine x_tsIn (tgt := 159) hG dX5_read_35 8 (by rw [hc20]; decide) rfl rfl (by decide) ?_
        refine x_keep [true, true, true, false] rfl ?_
        exact k_X5_read_159 hG hQ hr11 _ _ _ h
      have h := h.2
      by_cases hc21 : (M3.1 1 4) = 9
      · have h := h.1 hc21
        refine x_tsIn (tgt := 159) hG dX5_read_35 9 (by rw [hc21]; decide) rfl rfl (by decide) ?_
        refine x_keep [true, true, true, false] rfl ?_
        exact k_X5_read_159 hG hQ hr11 _ _ _ h
      have h := h.2
      by_cases hc22 : (M3.1 1 4) = 10
      · have h := h.1 hc22
        refine x_tsIn (tgt := 159) hG dX5_read_35 10 (by rw [hc22]; decide) rfl rfl (by decide) ?_
        refine x_keep [true, true, true, false] rfl ?_
        exact k_X5_read_159 hG hQ hr11 _ _ _ h
      have h := h.2
      by_cases hc23 : (M3.1 1 4) = 11
      · have h := h.1 hc23
        refine x_tsIn (tgt := 159) hG dX5_read_35 11 (by rw [hc23]; decide) rfl rfl (by decide) ?_
        refine x_keep [true, true, true, false] rfl ?_
        exact k_X5_read_159 hG hQ hr11 _ _ _ h
      have h := h.2
      by_cases hc24 : (M3.1 1 4) = 12
      · have h := h.1 hc24
        refine x_tsIn (tgt := 141) hG dX5_read_35 12 (by rw [hc24]; decide) rfl rfl (by decide) ?_
        refine x_aload_n hG dX5_read_141 rfl rfl ?_
        refine x_aload_n hG dX5_read_142 rfl rfl ?_
        refine x_cVI1 hG dX5_read_143 (fun ha => c_X5_readWorker ha h) gX5_read_X5_readWorker rfl ⟨rfl, rfl⟩ hy_X5_readWorker ⟨Nat.le_of_ble_eq_true rfl, Nat.le_of_ble_eq_true rfl⟩ (kd_lt (rfl : kd 1 = 5) (by decide)) (fun _ => xc_5 (rfl : kd 1 = 5)) rfl (Nat.le_of_ble_eq_true rfl) (fun z25 M26 h => ?_)
        refine x_istore_n hG dX5_read_146 rfl (Nat.le_of_ble_eq_true rfl) rfl ?_
        refine x_goto (tgt := 161) hG dX5_read_147 (by decide) ?_
        refine x_keep [true, true, true, true] rfl ?_
        exact k_X5_read_161 hG hQ hr11 _ _ _ _ h
      have h := h.2
      by_cases hc27 : (M3.1 1 4) = 13
      · have h := h.1 hc27
        refine x_tsIn (tgt := 150) hG dX5_read_35 13 (by rw [hc27]; decide) rfl rfl (by decide) ?_
        refine x_aload_n hG dX5_read_150 rfl rfl ?_
        refine x_aload_n hG dX5_read_151 rfl rfl ?_
        refine x_cVI1 hG dX5_read_152 (fun ha => c_X5_readDeed ha h) gX5_read_X5_readDeed rfl ⟨rfl, rfl⟩ hy_X5_readDeed ⟨Nat.le_of_ble_eq_true rfl, Nat.le_of_ble_eq_true rfl⟩ (kd_lt (rfl : kd 1 = 5) (by decide)) (fun _ => xc_5 (rfl : kd 1 = 5)) rfl (Nat.le_of_ble_eq_true rfl) (fun z28 M29 h => ?_)
        refine x_istore_n hG dX5_read_155 rfl (Nat.le_of_ble_eq_true rfl) rfl ?_
        refine x_goto (tgt := 161) hG dX5_read_156 (by decide) ?_
        refine x_keep [true, true, true, true] rfl ?_
        exact k_X5_read_161 hG hQ hr11 _ _ _ _ h
      have h := h.2
      have h := h hc5 hc10 hc13 hc16 hc20 hc21 hc22 hc23 hc24 hc27
      have e0 : (M3.1 1 4).toInt ≠ 4 := fun q => hc5 (Int32.toInt_inj.mp (q.trans (by decide)))
      have e1 : (M3.1 1 4).toInt ≠ 5 := fun q => hc10 (Int32.toInt_inj.mp (q.trans (by decide)))
      have e2 : (M3.1 1 4).toInt ≠ 6 := fun q => hc13 (Int32.toInt_inj.mp (q.trans (by decide)))
      have e3 : (M3.1 1 4).toInt ≠ 7 := fun q => hc16 (Int32.toInt_inj.mp (q.trans (by decide)))
      have e4 : (M3.1 1 4).toInt ≠ 8 := fun q => hc20 (Int32.toInt_inj.mp (q.trans (by decide)))
      have e5 : (M3.1 1 4).toInt ≠ 9 := fun q => hc21 (Int32.toInt_inj.mp (q.trans (by decide)))
      have e6 : (M3.1 1 4).toInt ≠ 10 := fun q => hc22 (Int32.toInt_inj.mp (q.trans (by decide)))
      have e7 : (M3.1 1 4).toInt ≠ 11 := fun q => hc23 (Int32.toInt_inj.mp (q.trans (by decide)))
      have e8 : (M3.1 1 4).toInt ≠ 12 := fun q => hc24 (Int32.toInt_inj.mp (q.trans (by decide)))
      have e9 : (M3.1 1 4).toInt ≠ 13 := fun q => hc27 (Int32.toInt_inj.mp (q.trans (by decide)))
      refine x_tsOut (tgt := 159) hG dX5_read_35 (by omega) (by decide) ?_
      refine x_keep [true, true, true, false] rfl ?_
      exact k_X5_read_159 hG hQ hr11 _ _ _ h
    · have h := h.2 hc4
      refine x_iload_n hG dX5_read_29 rfl rfl ?_
      exact x_iret hG hQ dX5_read_30 rfl h
set_option maxRecDepth 100000 in
set_option maxHeartbeats 4000000 in
theorem c_X5_read {l : Launch} {a : Nat → Nat} {M : xMem} {p1 : Nat} {post : Int32 → xMem → Prop} (ha : xInj a) (h : w_X5_read M p1 post) : ∀ D cs sz, xMetI l yX5_read wsX5_read rm_X5_read D a cs sz M [.ref (a 1), .ref (a p1)] post := by
  intro D cs sz
  unfold w_X5_read at h
  refine x_metI (ty := .int) [some (.ref (a 1)), some (.ref (a p1)), none, none] (by decide) rfl rfl (Nat.le_of_ble_eq_true rfl) rfl rfl ha D cs sz rfl (fun G e1 e2 hG hQ => ?_)
  subst e1
  subst e2
  refine x_aload_n hG dX5_read_0 rfl rfl ?_
  have hk1 : kd p1 = 2 := And.left h
  refine x_cVV0 hG dX5_read_1 (fun ha => c_X2_startAnew ha h) gX5_read_X2_startAnew rfl ⟨rfl, rfl⟩ hy_X2_startAnew ⟨Nat.le_of_ble_eq_true rfl, Nat.le_of_ble_eq_true rfl⟩ (kd_lt hk1 (by decide)) (fun _ => xc_2 hk1) rfl (Nat.le_of_ble_eq_true rfl) (fun M3 h => ?_)
  refine x_aload_n hG dX5_read_4 rfl rfl ?_
  refine x_iconst (v := (0 : Int32)) hG dX5_read_5 (by decide) ?_
  have h := h _ rfl
  refine x_put_5_2 hG dX5_read_6 (rfl : kd 1 = 5) hin_X5_read_X5 (List.mem_of_getElem? (i := 1) rfl) ?_
  refine x_iconst (v := (0 : Int32)) hG dX5_read_9 (by decide) ?_
  refine x_istore_n hG dX5_read_10 rfl (Nat.le_of_ble_eq_true rfl) rfl ?_
  refine x_keep [true, true, true, false] rfl ?_
  exact k_X5_read_11 hG hQ _ _ _ h
abbrev rm_X6_lossWith : Room := { frames := 1, cells := 0, slots := 0, locals := 21 }
theorem hy_X6_lossWith : yX6_lossWith.cls = RX6 ∧ yX6_lossWith.cls ≠ "java/lang/invoke/MethodHandle" ∧ yX6_lossWith.cls ≠ "java/lang/invoke/VarHandle" ∧ (parseMethodDescriptor yX6_lossWith.desc).map (fun d => d.parameters.length) = some 1 := by decide +kernel
theorem hin_X6_lossWith_X6 : ∀ w ∈ wsX60, w ∈ wsX6_lossWith := fun _ h => List.mem_cons_of_mem _ (List.mem_append_right _ h)
set_option maxRecDepth 100000 in
set_option maxHeartbeats 4000000 in
theorem c_X6_lossWith {l : Launch} {a : Nat → Nat} {M : xMem} {p1 : Int32} {post : Int32 → xMem → Prop} (ha : xInj a) (h : w_X6_lossWith M p1 post) : ∀ D cs sz, xMetI l yX6_lossWith wsX6_lossWith rm_X6_lossWith D a cs sz M [.ref (a 5), .int p1] post := by
  intro D cs sz
  unfold w_X6_lossWith at h
  refine x_metI (ty := .int) [some (.ref (a 5)), some (.int p1)] (by decide) rfl rfl (Nat.le_of_ble_eq_true rfl) rfl rfl ha D cs sz rfl (fun G e1 e2 hG hQ => ?_)
  subst e1
  subst e2
  refine x_iconst (v := (1 : Int32)) hG dX6_lossWith_0 (by decide) ?_
  refine x_aload_n hG dX6_lossWith_1 rfl rfl ?_
  refine x_get_6_2 hG dX6_lossWith_2 (rfl : kd 5 = 6) hin_X6_lossWith_X6 (List.mem_of_getElem? (i := 1) rfl) ?_
  refine x_iload_n hG dX6_lossWith_5 rfl rfl ?_
  refine x_isub hG dX6_lossWith_6 ?_
  refine x_mmax hG dX6_lossWith_7 (List.mem_of_getElem? (i := 2) rfl) (List.mem_of_getElem? (i := 3) rfl) (List.mem_of_getElem? (i := 4) rfl) (List.mem_of_getElem? (i := 5) rfl) (Nat.le_of_ble_eq_true rfl) (Nat.le_of_ble_eq_true rfl) ?_
  exact x_iret hG hQ dX6_lossWith_10 rfl h
abbrev rm_X6_carry : Room := { frames := 0, cells := 0, slots := 0, locals := 0 }
theorem hy_X6_carry : yX6_carry.cls ≠ "java/lang/invoke/MethodHandle" ∧ yX6_carry.cls ≠ "java/lang/invoke/VarHandle" ∧ (parseMethodDescriptor yX6_carry.desc).map (fun d => d.parameters.length) = some 6 := by decide +kernel
theorem hin_X6_carry_X0 : ∀ w ∈ wsX00, w ∈ wsX6_carry := fun _ h => List.mem_cons_of_mem _ (List.mem_append_right _ h)
set_option maxRecDepth 100000 in
set_option maxHeartbeats 4000000 in
theorem c_X6_carry {l : Launch} {a : Nat → Nat} {M : xMem} {p0 : Nat} {p1 : Int32} {p2 : Nat} {p3 : Int32} {p4 : Int32} {p5 : Int32} {post : Int32 → xMem → Prop} (ha : xInj a) (h : w_X6_carry M p0 p1 p2 p3 p4 p5 post) : ∀ D cs sz, xMetI l yX6_carry wsX6_carry rm_X6_carry D a cs sz M [.ref (a p0), .int p1, .ref (a p2), .int p3, .int p4, .int p5] post := by
  intro D cs sz
  unfold w_X6_carry at h
  refine x_metI (ty := .boolean) [some (.ref (a p0)), some (.int p1), some (.ref (a p2)), some (.int p3), some (.int p4), some (.int p5), none] (by decide) rfl rfl (Nat.le_of_ble_eq_true rfl) rfl rfl ha D cs sz rfl (fun G e1 e2 hG hQ => ?_)
  subst e1
  subst e2
  refine x_aload_n hG dX6_carry_0 rfl rfl ?_
  refine x_iload_n hG dX6_carry_1 rfl rfl ?_
  obtain ⟨hk1, h⟩ := h
  obtain ⟨hi2, h⟩ := h
  refine x_iaload hG dX6_carry_2 hk1 hi2 ?_
  refine x_iload hG dX6_carry_3 rfl ?_
  refine x_icmp_gt (tgt := 10) hG dX6_carry_5 (by decide) (fun hc3 => ?_) (fun hc3 => ?_)
  · have h := h.1 hc3
    refine x_aload_n hG dX6_carry_10 rfl rfl ?_
    refine x_iload_n hG dX6_carry_11 rfl rfl ?_
    refine x_iaload hG dX6_carry_12 hk1 hi2 ?_
    refine x_iload hG dX6_carry_13 rfl ?_
    refine x_isub hG dX6_carry_15 ?_
    refine x_aload_n hG dX6_carry_16 rfl rfl ?_
    obtain ⟨hk4, h⟩ := h
    refine x_get_0_0 hG dX6_carry_17 hk4 hin_X6_carry_X0 (List.mem_of_getElem? (i := 1) rfl) ?_
    refine x_iload_n hG dX6_carry_20 rfl rfl ?_
    obtain ⟨hi5, h⟩ := h
    refine x_iaload hG dX6_carry_21 (kf_0_0 hk4).1 (x_inE (kf_0_0 hk4).2 hi5) ?_
    refine x_ishr hG dX6_carry_22 ?_
    refine x_aload_n hG dX6_carry_23 rfl rfl ?_
    refine x_get_0_1 hG dX6_carry_24 hk4 hin_X6_carry_X0 (List.mem_of_getElem? (i := 2) rfl) ?_
    refine x_iload_n hG dX6_carry_27 rfl rfl ?_
    obtain ⟨hi6, h⟩ := h
    refine x_iaload hG dX6_carry_28 (kf_0_1 hk4).1 (x_inE (kf_0_1 hk4).2 hi6) ?_
    refine x_isub hG dX6_carry_29 ?_
    have h := h _ rfl
    refine x_istore hG dX6_carry_30 (Nat.le_of_ble_eq_true rfl) rfl ?_
    refine x_iload hG dX6_carry_32 rfl ?_
    refine x_aload_n hG dX6_carry_34 rfl rfl ?_
    refine x_iload hG dX6_carry_35 rfl ?_
    obtain ⟨hi8, h⟩ := h
    refine x_iaload hG dX6_carry_37 hk1 hi8 ?_
    refine x_icmp_gt (tgt := 43) hG dX6_carry_38 (by decide) (fun hc9 => ?_) (fun hc9 => ?_)
    · have h := h.1 hc9
      refine x_aload_n hG dX6_carry_43 rfl rfl ?_
      refine x_iload hG dX6_carry_44 rfl ?_
      refine x_iload hG dX6_carry_46 rfl ?_
      have h := h _ rfl
      refine x_iastore hG dX6_carry_48 hk1 hi8 ?_
      refine x_iconst (v := (1 : Int32)) hG dX6_carry_49 (by decide) ?_
      exact x_iret hG hQ dX6_carry_50 rfl h
    · have h := h.2 hc9
      refine x_iconst (v := (0 : Int32)) hG dX6_carry_41 (by decide) ?_
      exact x_iret hG hQ dX6_carry_42 rfl h
  · have h := h.2 hc3
    refine x_iconst (v := (0 : Int32)) hG dX6_carry_8 (by decide) ?_
    exact x_iret hG hQ dX6_carry_9 rfl h
abbrev rm_X6_sweepOn : Room := { frames := 2, cells := 0, slots := 0, locals := 42 }
theorem hy_X6_sweepOn : yX6_sweepOn.cls = RX6 ∧ yX6_sweepOn.cls ≠ "java/lang/invoke/MethodHandle" ∧ yX6_sweepOn.cls ≠ "java/lang/invoke/VarHandle" ∧ (parseMethodDescriptor yX6_sweepOn.desc).map (fun d => d.parameters.length) = some 2 := by decide +kernel
theorem hin_X6_sweepOn_X0 : ∀ w ∈ wsX00, w ∈ wsX6_sweepOn := fun _ h => List.mem_cons_of_mem _ (List.mem_append_left _ (List.mem_append_right _ h))
theorem hin_X6_sweepOn_X2 : ∀ w ∈ wsX20, w ∈ wsX6_sweepOn := fun _ h => List.mem_cons_of_mem _ (List.mem_append_left _ (List.mem_append_left _ (List.mem_append_right _ h)))
set_option maxRecDepth 100000 in
set_option maxHeartbeats 4000000 in
theorem k_X6_sweepOn_128 {G : xG} {post : xMem → Prop} (hG : xOk G cX6_sweepOn RX6 wsX6_sweepOn rm_X6_sweepOn) (hQ : xRetV G post) {r28 : xMem → Nat → Nat → Nat → Int32 → Int32 → Int32 → Prop} (hr28 : ∀ (M : xMem) (p1 : Nat) (p2 : Nat) (p3 : Nat) (p4 : Int32) (p5 : Int32) (p6 : Int32), r28 M p1 p2 p3 p4 p5 p6 → xW G M [none, some (.ref (xa G p1)), some (.ref (xa G p2)), some (.ref (xa G p3)), some (.int p4), some (.int p5), some (.int p6), none, none, none] [] 28) {r40 : xMem → Nat → Nat → Nat → Int32 → Int32 → Int32 → Int32 → Prop} (hr40 : ∀ (M : xMem) (p1 : Nat) (p2 : Nat) (p3 : Nat) (p4 : Int32) (p5 : Int32) (p6 : Int32) (p7 : Int32), r40 M p1 p2 p3 p4 p5 p6 p7 → xW G M [none, some (.ref (xa G p1)), some (.ref (xa G p2)), some (.ref (xa G p3)), some (.int p4), some (.int p5), some (.int p6), some (.int p7), none, none] [] 40) : ∀ (M : xMem) (p1 : Nat) (p2 : Nat) (p3 : Nat) (p4 : Int32) (p5 : Int32) (p6 : Int32) (p7 : Int32), b_X6_sweepOn_128 post r28 r40 M p1 p2 p3 p4 p5 p6 p7 → xW G M [none, some (.ref (xa G p1)), some (.ref (xa G p2)), some (.ref (xa G p3)), some (.int p4), some (.int p5), some (.int p6), some (.int p7), none, none] [] 128 := by
  intro M p1 p2 p3 p4 p5 p6 p7 h
  unfold b_X6_sweepOn_128 at h
  refine x_iinc (v := _) hG dX6_sweepOn_128 rfl (x_iincE (k := 1) (by decide)) (Nat.le_of_ble_eq_true rfl) rfl ?_
  refine x_goto (tgt := 40) hG dX6_sweepOn_131 (by decide) ?_
  refine x_keep [false, true, true, true, true, true, true, true, false, false] rfl ?_
  exact hr40 _ _ _ _ _ _ _ _ h
set_option maxRecDepth 100000 in
set_option maxHeartbeats 4000000 in
theorem k_X6_sweepOn_99 {G : xG} {post : xMem → Prop} (hG : xOk G cX6_sweepOn RX6 wsX6_sweepOn rm_X6_sweepOn) (hQ : xRetV G post) {r28 : xMem → Nat → Nat → Nat → Int32 → Int32 → Int32 → Prop} (hr28 : ∀ (M : xMem) (p1 : Nat) (p2 : Nat) (p3 : Nat) (p4 : Int32) (p5 : Int32) (p6 : Int32), r28 M p1 p2 p3 p4 p5 p6 → xW G M [none, some (.ref (xa G p1)), some (.ref (xa G p2)), some (.ref (xa G p3)), some (.int p4), some (.int p5), some (.int p6), none, none, none] [] 28) {r40 : xMem → Nat → Nat → Nat → Int32 → Int32 → Int32 → Int32 → Prop} (hr40 : ∀ (M : xMem) (p1 : Nat) (p2 : Nat) (p3 : Nat) (p4 : Int32) (p5 : Int32) (p6 : Int32) (p7 : Int32), r40 M p1 p2 p3 p4 p5 p6 p7 → xW G M [none, some (.ref (xa G p1)), some (.ref (xa G p2)), some (.ref (xa G p3)), some (.int p4), some (.int p5), some (.int p6), some (.int p7), none, none] [] 40) : ∀ (M : xMem) (p1 : Nat) (p2 : Nat) (p3 : Nat) (p4 : Int32) (p5 : Int32) (p6 : Int32) (p7 : Int32) (p8 : Int32) (p9 : Int32), b_X6_sweepOn_99 post r28 r40 M p1 p2 p3 p4 p5 p6 p7 p8 p9 → xW G M [none, some (.ref (xa G p1)), some (.ref (xa G p2)), some (.ref (xa G p3)), some (.int p4), some (.int p5), some (.int p6), some (.int p7), some (.int p8), some (.int p9)] [] 99 := by
  intro M p1 p2 p3 p4 p5 p6 p7 p8 p9 h
  unfold b_X6_sweepOn_99 at h
  refine x_iload hG dX6_sweepOn_99 rfl ?_
  refine x_iconst (v := (1 : Int32)) hG dX6_sweepOn_101 (by decide) ?_
  refine x_iadd hG dX6_sweepOn_102 ?_
  refine x_aload_n hG dX6_sweepOn_103 rfl rfl ?_
  obtain ⟨hk1, h⟩ := h
  refine x_get_2_1 hG dX6_sweepOn_104 hk1 hin_X6_sweepOn_X2 (List.mem_of_getElem? (i := 4) rfl) ?_
  refine x_icmp_ge (tgt := 128) hG dX6_sweepOn_107 (by decide) (fun hc2 => ?_) (fun hc2 => ?_)
  · have h := h.1 hc2
    refine x_keep [false, true, true, true, true, true, true, true, false, false] rfl ?_
    exact k_X6_sweepOn_128 hG hQ hr28 hr40 _ _ _ _ _ _ _ _ h
  · have h := h.2 hc2
    refine x_aload_n hG dX6_sweepOn_110 rfl rfl ?_
    refine x_iconst (v := (2 : Int32)) hG dX6_sweepOn_111 (by decide) ?_
    refine x_iload hG dX6_sweepOn_112 rfl ?_
    refine x_imul hG dX6_sweepOn_114 ?_
    refine x_iconst (v := (1 : Int32)) hG dX6_sweepOn_115 (by decide) ?_
    refine x_iadd hG dX6_sweepOn_116 ?_
    refine x_aload_n hG dX6_sweepOn_117 rfl rfl ?_
    refine x_iload hG dX6_sweepOn_118 rfl ?_
    refine x_iload hG dX6_sweepOn_120 rfl ?_
    refine x_iload hG dX6_sweepOn_122 rfl ?_
    refine x_cSI6 hG dX6_sweepOn_124 (fun ha => c_X6_carry ha h) gX6_sweepOn_X6_carry rfl ⟨rfl, rfl⟩ hy_X6_carry ⟨Nat.le_of_ble_eq_true rfl, Nat.le_of_ble_eq_true rfl⟩ (Nat.le_of_ble_eq_true rfl) (fun z3 M4 h => ?_)
    refine x_pop hG dX6_sweepOn_127 rfl ?_
    refine x_keep [false, true, true, true, true, true, true, true, false, false] rfl ?_
    exact k_X6_sweepOn_128 hG hQ hr28 hr40 _ _ _ _ _ _ _ _ h
set_option maxRecDepth 100000 in
set_option maxHeartbeats 4000000 in
theorem k_X6_sweepOn_40 {G : xG} {post : xMem → Prop} (hG : xOk G cX6_sweepOn RX6 wsX6_sweepOn rm_X6_sweepOn) (hQ : xRetV G post) {r28 : xMem → Nat → Nat → Nat → Int32 → Int32 → Int32 → Prop} (hr28 : ∀ (M : xMem) (p1 : Nat) (p2 : Nat) (p3 : Nat) (p4 : Int32) (p5 : Int32) (p6 : Int32), r28 M p1 p2 p3 p4 p5 p6 → xW G M [none, some (.ref (xa G p1)), some (.ref (xa G p2)), some (.ref (xa G p3)), some (.int p4), some (.int p5), some (.int p6), none, none, none] [] 28) : ∀ (M : xMem) (p1 : Nat) (p2 : Nat) (p3 : Nat) (p4 : Int32) (p5 : Int32) (p6 : Int32) (p7 : Int32), xlp8 (b_X6_sweepOn_40 post r28) M p1 p2 p3 p4 p5 p6 p7 → xW G M [none, some (.ref (xa G p1)), some (.ref (xa G p2)), some (.ref (xa G p3)), some (.int p4), some (.int p5), some (.int p6), some (.int p7), none, none] [] 40 := by
  refine xlp8_W (W := fun M p1 p2 p3 p4 p5 p6 p7 => xW G M [none, some (.ref (xa G p1)), some (.ref (xa G p2)), some (.ref (xa G p3)), some (.int p4), some (.int p5), some (.int p6), some (.int p7), none, none] [] 40) (fun r40 hr40 => ?_)
  intro M p1 p2 p3 p4 p5 p6 p7 h
  unfold b_X6_sweepOn_40 at h
  refine x_iload hG dX6_sweepOn_40 rfl ?_
  refine x_aload_n hG dX6_sweepOn_42 rfl rfl ?_
  obtain ⟨hk1, h⟩ := h
  refine x_get_2_0 hG dX6_sweepOn_43 hk1 hin_X6_sweepOn_X2 (List.mem_of_getElem? (i := 5) rfl) ?_
  refine x_icmp_ge (tgt := 134) hG dX6_sweepOn_46 (by decide) (fun hc2 => ?_) (fun hc2 => ?_)
  · have h := h.1 hc2
    refine x_iinc (v := _) hG dX6_sweepOn_134 rfl (x_iincE (k := 1) (by decide)) (Nat.le_of_ble_eq_true rfl) rfl ?_
    refine x_goto (tgt := 28) hG dX6_sweepOn_137 (by decide) ?_
    refine x_keep [false, true, true, true, true, true, true, false, false, false] rfl ?_
    exact hr28 _ _ _ _ _ _ _ h
  · have h := h.2 hc2
    refine x_aload_n hG dX6_sweepOn_49 rfl rfl ?_
    refine x_get_2_0 hG dX6_sweepOn_50 hk1 hin_X6_sweepOn_X2 (List.mem_of_getElem? (i := 5) rfl) ?_
    refine x_iload hG dX6_sweepOn_53 rfl ?_
    refine x_imul hG dX6_sweepOn_55 ?_
    refine x_iload hG dX6_sweepOn_56 rfl ?_
    refine x_iadd hG dX6_sweepOn_58 ?_
    refine x_istore hG dX6_sweepOn_59 (Nat.le_of_ble_eq_true rfl) rfl ?_
    refine x_iload hG dX6_sweepOn_61 rfl ?_
    refine x_aload_n hG dX6_sweepOn_63 rfl rfl ?_
    refine x_get_2_0 hG dX6_sweepOn_64 hk1 hin_X6_sweepOn_X2 (List.mem_of_getElem? (i := 5) rfl) ?_
    refine x_iadd hG dX6_sweepOn_67 ?_
    refine x_istore hG dX6_sweepOn_68 (Nat.le_of_ble_eq_true rfl) rfl ?_
    refine x_iload hG dX6_sweepOn_70 rfl ?_
    refine x_iconst (v := (1 : Int32)) hG dX6_sweepOn_72 (by decide) ?_
    refine x_iadd hG dX6_sweepOn_73 ?_
    refine x_aload_n hG dX6_sweepOn_74 rfl rfl ?_
    refine x_get_2_0 hG dX6_sweepOn_75 hk1 hin_X6_sweepOn_X2 (List.mem_of_getElem? (i := 5) rfl) ?_
    refine x_icmp_ge (tgt := 99) hG dX6_sweepOn_78 (by decide) (fun hc3 => ?_) (fun hc3 => ?_)
    · have h := h.1 hc3
      refine x_keep [false, true, true, true, true, true, true, true, true, true] rfl ?_
      exact k_X6_sweepOn_99 hG hQ hr28 hr40 _ _ _ _ _ _ _ _ _ _ h
    · have h := h.2 hc3
      refine x_aload_n hG dX6_sweepOn_81 rfl rfl ?_
      refine x_iconst (v := (2 : Int32)) hG dX6_sweepOn_82 (by decide) ?_
      refine x_iload hG dX6_sweepOn_83 rfl ?_
      refine x_imul hG dX6_sweepOn_85 ?_
      refine x_aload_n hG dX6_sweepOn_86 rfl rfl ?_
      refine x_iload hG dX6_sweepOn_87 rfl ?_
      refine x_iload hG dX6_sweepOn_89 rfl ?_
      refine x_iconst (v := (1 : Int32)) hG dX6_sweepOn_91 (by decide) ?_
      refine x_iadd hG dX6_sweepOn_92 ?_
      refine x_iload hG dX6_sweepOn_93 rfl ?_
      refine x_cSI6 hG dX6_sweepOn_95 (fun ha => c_X6_carry ha h) gX6_sweepOn_X6_carry rfl ⟨rfl, rfl⟩ hy_X6_carry ⟨Nat.le_of_ble_eq_true rfl, Nat.le_of_ble_eq_true rfl⟩ (Nat.le_of_ble_eq_true rfl) (fun z4 M5 h => ?_)
      refine x_pop hG dX6_sweepOn_98 rfl ?_
      refine x_keep [false, true, true, true, true, true, true, true, true, true] rfl ?_
      exact k_X6_sweepOn_99 hG hQ hr28 hr40 _ _ _ _ _ _ _ _ _ _ h
set_option maxRecDepth 100000 in
set_option maxHeartbeats 4000000 in
theorem k_X6_sweepOn_28 {G : xG} {post : xMem → Prop} (hG : xOk G cX6_sweepOn RX6 wsX6_sweepOn rm_X6_sweepOn) (hQ : xRetV G post) : ∀ (M : xMem) (p1 : Nat) (p2 : Nat) (p3 : Nat) (p4 : Int32) (p5 : Int32) (p6 : Int32), xlp7 (b_X6_sweepOn_28 post) M p1 p2 p3 p4 p5 p6 → xW G M [none, some (.ref (xa G p1)), some (.ref (xa G p2)), some (.ref (xa G p3)), some (.int p4), some (.int p5), some (.int p6), none, none, none] [] 28 := by
  refine xlp7_W (W := fun M p1 p2 p3 p4 p5 p6 => xW G M [none, some (.ref (xa G p1)), some (.ref (xa G p2)), some (.ref (xa G p3)), some (.int p4), some (.int p5), some (.int p6), none, none, none] [] 28) (fun r28 hr28 => ?_)
  intro M p1 p2 p3 p4 p5 p6 h
  unfold b_X6_sweepOn_28 at h
  refine x_iload hG dX6_sweepOn_28 rfl ?_
  refine x_aload_n hG dX6_sweepOn_30 rfl rfl ?_
  obtain ⟨hk1, h⟩ := h
  refine x_get_2_1 hG dX6_sweepOn_31 hk1 hin_X6_sweepOn_X2 (List.mem_of_getElem? (i := 4) rfl) ?_
  refine x_icmp_ge (tgt := 140) hG dX6_sweepOn_34 (by decide) (fun hc2 => ?_) (fun hc2 => ?_)
  · have h := h.1 hc2
    exact x_vret hG hQ dX6_sweepOn_140 h
  · have h := h.2 hc2
    refine x_iconst (v := (0 : Int32)) hG dX6_sweepOn_37 (by decide) ?_
    refine x_istore hG dX6_sweepOn_38 (Nat.le_of_ble_eq_true rfl) rfl ?_
    refine x_keep [false, true, true, true, true, true, true, true, false, false] rfl ?_
    exact k_X6_sweepOn_40 hG hQ hr28 _ _ _ _ _ _ _ _ h
set_option maxRecDepth 100000 in
set_option maxHeartbeats 4000000 in
theorem c_X6_sweepOn {l : Launch} {a : Nat → Nat} {M : xMem} {p1 : Nat} {p2 : Nat} {post : xMem → Prop} (ha : xInj a) (h : w_X6_sweepOn M p1 p2 post) : ∀ D cs sz, xMetV l yX6_sweepOn wsX6_sweepOn rm_X6_sweepOn D a cs sz M [.ref (a 5), .ref (a p1), .ref (a p2)] post := by
  intro D cs sz
  unfold w_X6_sweepOn at h
  refine x_metV [some (.ref (a 5)), some (.ref (a p1)), some (.ref (a p2)), none, none, none, none, none, none, none] (by decide) rfl rfl (Nat.le_of_ble_eq_true rfl) rfl rfl ha D cs sz rfl (fun G e1 e2 hG hQ => ?_)
  subst e1
  subst e2
  refine x_aload_n hG dX6_sweepOn_0 rfl rfl ?_
  obtain ⟨hk1, h⟩ := h
  refine x_get_2_4 hG dX6_sweepOn_1 hk1 hin_X6_sweepOn_X2 (List.mem_of_getElem? (i := 1) rfl) ?_
  refine x_astore_n hG dX6_sweepOn_4 rfl (Nat.le_of_ble_eq_true rfl) rfl ?_
  refine x_aload_n hG dX6_sweepOn_5 rfl rfl ?_
  refine x_aload_n hG dX6_sweepOn_6 rfl rfl ?_
  refine x_get_0_2 hG dX6_sweepOn_7 (kf_2_4 hk1).1 hin_X6_sweepOn_X0 (List.mem_of_getElem? (i := 2) rfl) ?_
  refine x_cVI1 hG dX6_sweepOn_10 (fun ha => c_X6_lossWith ha h) gX6_sweepOn_X6_lossWith rfl ⟨rfl, rfl⟩ hy_X6_lossWith ⟨Nat.le_of_ble_eq_true rfl, Nat.le_of_ble_eq_true rfl⟩ (kd_lt (rfl : kd 5 = 6) (by decide)) (fun _ => xc_6 (rfl : kd 5 = 6)) rfl (Nat.le_of_ble_eq_true rfl) (fun z2 M3 h => ?_)
  refine x_istore hG dX6_sweepOn_13 (Nat.le_of_ble_eq_true rfl) rfl ?_
  refine x_aload_n hG dX6_sweepOn_15 rfl rfl ?_
  refine x_aload_n hG dX6_sweepOn_16 rfl rfl ?_
  refine x_get_0_3 hG dX6_sweepOn_17 (kf_2_4 hk1).1 hin_X6_sweepOn_X0 (List.mem_of_getElem? (i := 3) rfl) ?_
  refine x_cVI1 hG dX6_sweepOn_20 (fun ha => c_X6_lossWith ha h) gX6_sweepOn_X6_lossWith rfl ⟨rfl, rfl⟩ hy_X6_lossWith ⟨Nat.le_of_ble_eq_true rfl, Nat.le_of_ble_eq_true rfl⟩ (kd_lt (rfl : kd 5 = 6) (by decide)) (fun _ => xc_6 (rfl : kd 5 = 6)) rfl (Nat.le_of_ble_eq_true rfl) (fun z4 M5 h => ?_)
  refine x_istore hG dX6_sweepOn_23 (Nat.le_of_ble_eq_true rfl) rfl ?_
  refine x_iconst (v := (0 : Int32)) hG dX6_sweepOn_25 (by decide) ?_
  refine x_istore hG dX6_sweepOn_26 (Nat.le_of_ble_eq_true rfl) rfl ?_
  refine x_keep [false, true, true, true, true, true, true, false, false, false] rfl ?_
  exact k_X6_sweepOn_28 hG hQ _ _ _ _ _ _ _ h
abbrev rm_X6_sweepAgainst : Room := { frames := 2, cells := 0, slots := 0, locals := 42 }
theorem hy_X6_sweepAgainst : yX6_sweepAgainst.cls = RX6 ∧ yX6_sweepAgainst.cls ≠ "java/lang/invoke/MethodHandle" ∧ yX6_sweepAgainst.cls ≠ "java/lang/invoke/VarHandle" ∧ (parseMethodDescriptor yX6_sweepAgainst.desc).map (fun d => d.parameters.length) = some 2 := by decide +kernel
theorem hin_X6_sweepAgainst_X0 : ∀ w ∈ wsX00, w ∈ wsX6_sweepAgainst := fun _ h => List.mem_cons_of_mem _ (List.mem_append_left _ (List.mem_append_right _ h))
theorem hin_X6_sweepAgainst_X2 : ∀ w ∈ wsX20, w ∈ wsX6_sweepAgainst := fun _ h => List.mem_cons_of_mem _ (List.mem_append_left _ (List.mem_append_left _ (List.mem_append_right _ h)))
set_option maxRecDepth 100000 in
set_option maxHeartbeats 4000000 in
theorem k_X6_sweepAgainst_145 {G : xG} {post : Int32 → xMem → Prop} (hG : xOk G cX6_sweepAgainst RX6 wsX6_sweepAgainst rm_X6_sweepAgainst) (hQ : xRetI G post .boolean) {r38 : xMem → Nat → Nat → Nat → Int32 → Int32 → Int32 → Int32 → Prop} (hr38 : ∀ (M : xMem) (p1 : Nat) (p2 : Nat) (p3 : Nat) (p4 : Int32) (p5 : Int32) (p6 : Int32) (p7 : Int32), r38 M p1 p2 p3 p4 p5 p6 p7 → xW G M [none, some (.ref (xa G p1)), some (.ref (xa G p2)), some (.ref (xa G p3)), some (.int p4), some (.int p5), some (.int p6), some (.int p7), none, none, none] [] 38) {r51 : xMem → Nat → Nat → Nat → Int32 → Int32 → Int32 → Int32 → Int32 → Prop} (hr51 : ∀ (M : xMem) (p1 : Nat) (p2 : Nat) (p3 : Nat) (p4 : Int32) (p5 : Int32) (p6 : Int32) (p7 : Int32) (p8 : Int32), r51 M p1 p2 p3 p4 p5 p6 p7 p8 → xW G M [none, some (.ref (xa G p1)), some (.ref (xa G p2)), some (.ref (xa G p3)), some (.int p4), some (.int p5), some (.int p6), some (.int p7), some (.int p8), none, none] [] 51) : ∀ (M : xMem) (p1 : Nat) (p2 : Nat) (p3 : Nat) (p4 : Int32) (p5 : Int32) (p6 : Int32) (p7 : Int32) (p8 : Int32), b_X6_sweepAgainst_145 post r38 r51 M p1 p2 p3 p4 p5 p6 p7 p8 → xW G M [none, some (.ref (xa G p1)), some (.ref (xa G p2)), some (.ref (xa G p3)), some (.int p4), some (.int p5), some (.int p6), some (.int p7), some (.int p8), none, none] [] 145 := by
  intro M p1 p2 p3 p4 p5 p6 p7 p8 h
  unfold b_X6_sweepAgainst_145 at h
  refine x_iinc (v := _) hG dX6_sweepAgainst_145 rfl (x_iincE (k := (-1)) (by decide)) (Nat.le_of_ble_eq_true rfl) rfl ?_
  refine x_goto (tgt := 51) hG dX6_sweepAgainst_148 (by decide) ?_
  refine x_keep [false, true, true, true, true, true, true, true, true, false, false] rfl ?_
  exact hr51 _ _ _ _ _ _ _ _ _ h
set_option maxRecDepth 100000 in
set_option maxHeartbeats 4000000 in
theorem k_X6_sweepAgainst_111 {G : xG} {post : Int32 → xMem → Prop} (hG : xOk G cX6_sweepAgainst RX6 wsX6_sweepAgainst rm_X6_sweepAgainst) (hQ : xRetI G post .boolean) {r38 : xMem → Nat → Nat → Nat → Int32 → Int32 → Int32 → Int32 → Prop} (hr38 : ∀ (M : xMem) (p1 : Nat) (p2 : Nat) (p3 : Nat) (p4 : Int32) (p5 : Int32) (p6 : Int32) (p7 : Int32), r38 M p1 p2 p3 p4 p5 p6 p7 → xW G M [none, some (.ref (xa G p1)), some (.ref (xa G p2)), some (.ref (xa G p3)), some (.int p4), some (.int p5), some (.int p6), some (.int p7), none, none, none] [] 38) {r51 : xMem → Nat → Nat → Nat → Int32 → Int32 → Int32 → Int32 → Int32 → Prop} (hr51 : ∀ (M : xMem) (p1 : Nat) (p2 : Nat) (p3 : Nat) (p4 : Int32) (p5 : Int32) (p6 : Int32) (p7 : Int32) (p8 : Int32), r51 M p1 p2 p3 p4 p5 p6 p7 p8 → xW G M [none, some (.ref (xa G p1)), some (.ref (xa G p2)), some (.ref (xa G p3)), some (.int p4), some (.int p5), some (.int p6), some (.int p7), some (.int p8), none, none] [] 51) : ∀ (M : xMem) (p1 : Nat) (p2 : Nat) (p3 : Nat) (p4 : Int32) (p5 : Int32) (p6 : Int32) (p7 : Int32) (p8 : Int32) (p9 : Int32) (p10 : Int32), b_X6_sweepAgainst_111 post r38 r51 M p1 p2 p3 p4 p5 p6 p7 p8 p9 p10 → xW G M [none, some (.ref (xa G p1)), some (.ref (xa G p2)), some (.ref (xa G p3)), some (.int p4), some (.int p5), some (.int p6), some (.int p7), some (.int p8), some (.int p9), some (.int p10)] [] 111 := by
  intro M p1 p2 p3 p4 p5 p6 p7 p8 p9 p10 h
  unfold b_X6_sweepAgainst_111 at h
  refine x_iload hG dX6_sweepAgainst_111 rfl ?_
  refine x_iconst (v := (1 : Int32)) hG dX6_sweepAgainst_113 (by decide) ?_
  refine x_iadd hG dX6_sweepAgainst_114 ?_
  refine x_aload_n hG dX6_sweepAgainst_115 rfl rfl ?_
  obtain ⟨hk1, h⟩ := h
  refine x_get_2_1 hG dX6_sweepAgainst_116 hk1 hin_X6_sweepAgainst_X2 (List.mem_of_getElem? (i := 4) rfl) ?_
  refine x_icmp_ge (tgt := 145) hG dX6_sweepAgainst_119 (by decide) (fun hc2 => ?_) (fun hc2 => ?_)
  · have h := h.1 hc2
    refine x_keep [false, true, true, true, true, true, true, true, true, false, false] rfl ?_
    exact k_X6_sweepAgainst_145 hG hQ hr38 hr51 _ _ _ _ _ _ _ _ _ h
  · have h := h.2 hc2
    refine x_aload_n hG dX6_sweepAgainst_122 rfl rfl ?_
    refine x_iconst (v := (2 : Int32)) hG dX6_sweepAgainst_123 (by decide) ?_
    refine x_iload hG dX6_sweepAgainst_124 rfl ?_
    refine x_imul hG dX6_sweepAgainst_126 ?_
    refine x_iconst (v := (1 : Int32)) hG dX6_sweepAgainst_127 (by decide) ?_
    refine x_iadd hG dX6_sweepAgainst_128 ?_
    refine x_aload_n hG dX6_sweepAgainst_129 rfl rfl ?_
    refine x_iload hG dX6_sweepAgainst_130 rfl ?_
    refine x_iload hG dX6_sweepAgainst_132 rfl ?_
    refine x_iload hG dX6_sweepAgainst_134 rfl ?_
    refine x_cSI6 hG dX6_sweepAgainst_136 (fun ha => c_X6_carry ha h) gX6_sweepAgainst_X6_carry rfl ⟨rfl, rfl⟩ hy_X6_carry ⟨Nat.le_of_ble_eq_true rfl, Nat.le_of_ble_eq_true rfl⟩ (Nat.le_of_ble_eq_true rfl) (fun z3 M4 h => ?_)
    refine x_if_eq (tgt := 145) hG dX6_sweepAgainst_139 (by decide) (fun hc5 => ?_) (fun hc5 => ?_)
    · have h := h.1 hc5
      refine x_keep [false, true, true, true, true, true, true, true, true, false, false] rfl ?_
      exact k_X6_sweepAgainst_145 hG hQ hr38 hr51 _ _ _ _ _ _ _ _ _ h
    · have h := h.2 hc5
      refine x_iconst (v := (1 : Int32)) hG dX6_sweepAgainst_142 (by decide) ?_
      refine x_istore hG dX6_sweepAgainst_143 (Nat.le_of_ble_eq_true rfl) rfl ?_
      refine x_keep [false, true, true, true, true, true, true, true, true, false, false] rfl ?_
      exact k_X6_sweepAgainst_145 hG hQ hr38 hr51 _ _ _ _ _ _ _ _ _ h
set_option maxRecDepth 100000 in
set_option maxHeartbeats 4000000 in
theorem k_X6_sweepAgainst_51 {G : xG} {post : Int32 → xMem → Prop} (hG : xOk G cX6_sweepAgainst RX6 wsX6_sweepAgainst rm_X6_sweepAgainst) (hQ : xRetI G post .boolean) {r38 : xMem → Nat → Nat → Nat → Int32 → Int32 → Int32 → Int32 → Prop} (hr38 : ∀ (M : xMem) (p1 : Nat) (p2 : Nat) (p3 : Nat) (p4 : Int32) (p5 : Int32) (p6 : Int32) (p7 : Int32), r38 M p1 p2 p3 p4 p5 p6 p7 → xW G M [none, some (.ref (xa G p1)), some (.ref (xa G p2)), some (.ref (xa G p3)), some (.int p4), some (.int p5), some (.int p6), some (.int p7), none, none, none] [] 38) : ∀ (M : xMem) (p1 : Nat) (p2 : Nat) (p3 : Nat) (p4 : Int32) (p5 : Int32) (p6 : Int32) (p7 : Int32) (p8 : Int32), xlp9 (b_X6_sweepAgainst_51 post r38) M p1 p2 p3 p4 p5 p6 p7 p8 → xW G M [none, some (.ref (xa G p1)), some (.ref (xa G p2)), some (.ref (xa G p3)), some (.int p4), some (.int p5), some (.int p6), some (.int p7), some (.int p8), none, none] [] 51 := by
  refine xlp9_W (W := fun M p1 p2 p3 p4 p5 p6 p7 p8 => xW G M [none, some (.ref (xa G p1)), some (.ref (xa G p2)), some (.ref (xa G p3)), some (.int p4), some (.int p5), some (.int p6), some (.int p7), some (.int p8), none, none] [] 51) (fun r51 hr51 => ?_)
  intro M p1 p2 p3 p4 p5 p6 p7 p8 h
  unfold b_X6_sweepAgainst_51 at h
  refine x_iload hG dX6_sweepAgainst_51 rfl ?_
  refine x_if_lt (tgt := 151) hG dX6_sweepAgainst_53 (by decide) (fun hc1 => ?_) (fun hc1 => ?_)
  · have h := h.1 hc1
    refine x_iinc (v := _) hG dX6_sweepAgainst_151 rfl (x_iincE (k := (-1)) (by decide)) (Nat.le_of_ble_eq_true rfl) rfl ?_
    refine x_goto (tgt := 38) hG dX6_sweepAgainst_154 (by decide) ?_
    refine x_keep [false, true, true, true, true, true, true, true, false, false, false] rfl ?_
    exact hr38 _ _ _ _ _ _ _ _ h
  · have h := h.2 hc1
    refine x_aload_n hG dX6_sweepAgainst_56 rfl rfl ?_
    obtain ⟨hk2, h⟩ := h
    refine x_get_2_0 hG dX6_sweepAgainst_57 hk2 hin_X6_sweepAgainst_X2 (List.mem_of_getElem? (i := 5) rfl) ?_
    refine x_iload hG dX6_sweepAgainst_60 rfl ?_
    refine x_imul hG dX6_sweepAgainst_62 ?_
    refine x_iload hG dX6_sweepAgainst_63 rfl ?_
    refine x_iadd hG dX6_sweepAgainst_65 ?_
    refine x_istore hG dX6_sweepAgainst_66 (Nat.le_of_ble_eq_true rfl) rfl ?_
    refine x_iload hG dX6_sweepAgainst_68 rfl ?_
    refine x_aload_n hG dX6_sweepAgainst_70 rfl rfl ?_
    refine x_get_2_0 hG dX6_sweepAgainst_71 hk2 hin_X6_sweepAgainst_X2 (List.mem_of_getElem? (i := 5) rfl) ?_
    refine x_iadd hG dX6_sweepAgainst_74 ?_
    refine x_istore hG dX6_sweepAgainst_75 (Nat.le_of_ble_eq_true rfl) rfl ?_
    refine x_iload hG dX6_sweepAgainst_77 rfl ?_
    refine x_iconst (v := (1 : Int32)) hG dX6_sweepAgainst_79 (by decide) ?_
    refine x_iadd hG dX6_sweepAgainst_80 ?_
    refine x_aload_n hG dX6_sweepAgainst_81 rfl rfl ?_
    refine x_get_2_0 hG dX6_sweepAgainst_82 hk2 hin_X6_sweepAgainst_X2 (List.mem_of_getElem? (i := 5) rfl) ?_
    refine x_icmp_ge (tgt := 111) hG dX6_sweepAgainst_85 (by decide) (fun hc3 => ?_) (fun hc3 => ?_)
    · have h := h.1 hc3
      refine x_keep [false, true, true, true, true, true, true, true, true, true, true] rfl ?_
      exact k_X6_sweepAgainst_111 hG hQ hr38 hr51 _ _ _ _ _ _ _ _ _ _ _ h
    · have h := h.2 hc3
      refine x_aload_n hG dX6_sweepAgainst_88 rfl rfl ?_
      refine x_iconst (v := (2 : Int32)) hG dX6_sweepAgainst_89 (by decide) ?_
      refine x_iload hG dX6_sweepAgainst_90 rfl ?_
      refine x_imul hG dX6_sweepAgainst_92 ?_
      refine x_aload_n hG dX6_sweepAgainst_93 rfl rfl ?_
      refine x_iload hG dX6_sweepAgainst_94 rfl ?_
      refine x_iconst (v := (1 : Int32)) hG dX6_sweepAgainst_96 (by decide) ?_
      refine x_iadd hG dX6_sweepAgainst_97 ?_
      refine x_iload hG dX6_sweepAgainst_98 rfl ?_
      refine x_iload hG dX6_sweepAgainst_100 rfl ?_
      refine x_cSI6 hG dX6_sweepAgainst_102 (fun ha => c_X6_carry ha h) gX6_sweepAgainst_X6_carry rfl ⟨rfl, rfl⟩ hy_X6_carry ⟨Nat.le_of_ble_eq_true rfl, Nat.le_of_ble_eq_true rfl⟩ (Nat.le_of_ble_eq_true rfl) (fun z4 M5 h => ?_)
      refine x_if_eq (tgt := 111) hG dX6_sweepAgainst_105 (by decide) (fun hc6 => ?_) (fun hc6 => ?_)
      · have h := h.1 hc6
        refine x_keep [false, true, true, true, true, true, true, true, true, true, true] rfl ?_
        exact k_X6_sweepAgainst_111 hG hQ hr38 hr51 _ _ _ _ _ _ _ _ _ _ _ h
      · have h := h.2 hc6
        refine x_iconst (v := (1 : Int32)) hG dX6_sweepAgainst_108 (by decide) ?_
        refine x_istore hG dX6_sweepAgainst_109 (Nat.le_of_ble_eq_true rfl) rfl ?_
        refine x_keep [false, true, true, true, true, true, true, true, true, true, true] rfl ?_
        exact k_X6_sweepAgainst_111 hG hQ hr38 hr51 _ _ _ _ _ _ _ _ _ _ _ h
set_option maxRecDepth 100000 in
set_option maxHeartbeats 4000000 in
theorem k_X6_sweepAgainst_38 {G : xG} {post : Int32 → xMem → Prop} (hG : xOk G cX6_sweepAgainst RX6 wsX6_sweepAgainst rm_X6_sweepAgainst) (hQ : xRetI G post .boolean) : ∀ (M : xMem) (p1 : Nat) (p2 : Nat) (p3 : Nat) (p4 : Int32) (p5 : Int32) (p6 : Int32) (p7 : Int32), xlp8 (b_X6_sweepAgainst_38 post) M p1 p2 p3 p4 p5 p6 p7 → xW G M [none, some (.ref (xa G p1)), some (.ref (xa G p2)), some (.ref (xa G p3)), some (.int p4), some (.int p5), some (.int p6), some (.int p7), none, none, none] [] 38 := by
  refine xlp8_W (W := fun M p1 p2 p3 p4 p5 p6 p7 => xW G M [none, some (.ref (xa G p1)), some (.ref (xa G p2)), some (.ref (xa G p3)), some (.int p4), some (.int p5), some (.int p6), some (.int p7), none, none, none] [] 38) (fun r38 hr38 => ?_)
  intro M p1 p2 p3 p4 p5 p6 p7 h
  unfold b_X6_sweepAgainst_38 at h
  refine x_iload hG dX6_sweepAgainst_38 rfl ?_
  refine x_if_lt (tgt := 157) hG dX6_sweepAgainst_40 (by decide) (fun hc1 => ?_) (fun hc1 => ?_)
  · have h := h.1 hc1
    refine x_iload hG dX6_sweepAgainst_157 rfl ?_
    exact x_iret hG hQ dX6_sweepAgainst_159 (x_nb h.1) h.2
  · have h := h.2 hc1
    refine x_aload_n hG dX6_sweepAgainst_43 rfl rfl ?_
    obtain ⟨hk2, h⟩ := h
    refine x_get_2_0 hG dX6_sweepAgainst_44 hk2 hin_X6_sweepAgainst_X2 (List.mem_of_getElem? (i := 5) rfl) ?_
    refine x_iconst (v := (1 : Int32)) hG dX6_sweepAgainst_47 (by decide) ?_
    refine x_isub hG dX6_sweepAgainst_48 ?_
    refine x_istore hG dX6_sweepAgainst_49 (Nat.le_of_ble_eq_true rfl) rfl ?_
    refine x_keep [false, true, true, true, true, true, true, true, true, false, false] rfl ?_
    exact k_X6_sweepAgainst_51 hG hQ hr38 _ _ _ _ _ _ _ _ _ h
set_option maxRecDepth 100000 in
set_option maxHeartbeats 4000000 in
theorem c_X6_sweepAgainst {l : Launch} {a : Nat → Nat} {M : xMem} {p1 : Nat} {p2 : Nat} {post : Int32 → xMem → Prop} (ha : xInj a) (h : w_X6_sweepAgainst M p1 p2 post) : ∀ D cs sz, xMetI l yX6_sweepAgainst wsX6_sweepAgainst rm_X6_sweepAgainst D a cs sz M [.ref (a 5), .ref (a p1), .ref (a p2)] post := by
  intro D cs sz
  unfold w_X6_sweepAgainst at h
  refine x_metI (ty := .boolean) [some (.ref (a 5)), some (.ref (a p1)), some (.ref (a p2)), none, none, none, none, none, none, none, none] (by decide) rfl rfl (Nat.le_of_ble_eq_true rfl) rfl rfl ha D cs sz rfl (fun G e1 e2 hG hQ => ?_)
  subst e1
  subst e2
  refine x_aload_n hG dX6_sweepAgainst_0 rfl rfl ?_
  obtain ⟨hk1, h⟩ := h
  refine x_get_2_4 hG dX6_sweepAgainst_1 hk1 hin_X6_sweepAgainst_X2 (List.mem_of_getElem? (i := 1) rfl) ?_
  refine x_astore_n hG dX6_sweepAgainst_4 rfl (Nat.le_of_ble_eq_true rfl) rfl ?_
  refine x_aload_n hG dX6_sweepAgainst_5 rfl rfl ?_
  refine x_aload_n hG dX6_sweepAgainst_6 rfl rfl ?_
  refine x_get_0_2 hG dX6_sweepAgainst_7 (kf_2_4 hk1).1 hin_X6_sweepAgainst_X0 (List.mem_of_getElem? (i := 2) rfl) ?_
  refine x_ineg hG dX6_sweepAgainst_10 ?_
  refine x_cVI1 hG dX6_sweepAgainst_11 (fun ha => c_X6_lossWith ha h) gX6_sweepAgainst_X6_lossWith rfl ⟨rfl, rfl⟩ hy_X6_lossWith ⟨Nat.le_of_ble_eq_true rfl, Nat.le_of_ble_eq_true rfl⟩ (kd_lt (rfl : kd 5 = 6) (by decide)) (fun _ => xc_6 (rfl : kd 5 = 6)) rfl (Nat.le_of_ble_eq_true rfl) (fun z2 M3 h => ?_)
  refine x_istore hG dX6_sweepAgainst_14 (Nat.le_of_ble_eq_true rfl) rfl ?_
  refine x_aload_n hG dX6_sweepAgainst_16 rfl rfl ?_
  refine x_aload_n hG dX6_sweepAgainst_17 rfl rfl ?_
  refine x_get_0_3 hG dX6_sweepAgainst_18 (kf_2_4 hk1).1 hin_X6_sweepAgainst_X0 (List.mem_of_getElem? (i := 3) rfl) ?_
  refine x_ineg hG dX6_sweepAgainst_21 ?_
  refine x_cVI1 hG dX6_sweepAgainst_22 (fun ha => c_X6_lossWith ha h) gX6_sweepAgainst_X6_lossWith rfl ⟨rfl, rfl⟩ hy_X6_lossWith ⟨Nat.le_of_ble_eq_true rfl, Nat.le_of_ble_eq_true rfl⟩ (kd_lt (rfl : kd 5 = 6) (by decide)) (fun _ => xc_6 (rfl : kd 5 = 6)) rfl (Nat.le_of_ble_eq_true rfl) (fun z4 M5 h => ?_)
  refine x_istore hG dX6_sweepAgainst_25 (Nat.le_of_ble_eq_true rfl) rfl ?_
  refine x_iconst (v := (0 : Int32)) hG dX6_sweepAgainst_27 (by decide) ?_
  refine x_istore hG dX6_sweepAgainst_28 (Nat.le_of_ble_eq_true rfl) rfl ?_
  refine x_aload_n hG dX6_sweepAgainst_30 rfl rfl ?_
  refine x_get_2_1 hG dX6_sweepAgainst_31 hk1 hin_X6_sweepAgainst_X2 (List.mem_of_getElem? (i := 4) rfl) ?_
  refine x_iconst (v := (1 : Int32)) hG dX6_sweepAgainst_34 (by decide) ?_
  refine x_isub hG dX6_sweepAgainst_35 ?_
  refine x_istore hG dX6_sweepAgainst_36 (Nat.le_of_ble_eq_true rfl) rfl ?_
  refine x_keep [false, true, true, true, true, true, true, true, false, false, false] rfl ?_
  exact k_X6_sweepAgainst_38 hG hQ _ _ _ _ _ _ _ _ h
abbrev rm_X6_spread : Room := { frames := 3, cells := 0, slots := 0, locals := 72 }
theorem hy_X6_spread : yX6_spread.cls = RX6 ∧ yX6_spread.cls ≠ "java/lang/invoke/MethodHandle" ∧ yX6_spread.cls ≠ "java/lang/invoke/VarHandle" ∧ (parseMethodDescriptor yX6_spread.desc).map (fun d => d.parameters.length) = some 4 := by decide +kernel
set_option maxRecDepth 100000 in
set_option maxHeartbeats 4000000 in
theorem k_X6_spread_17 {G : xG} {post : xMem → Prop} (hG : xOk G cX6_spread RX6 wsX6_spread rm_X6_spread) (hQ : xRetV G post) : ∀ (M : xMem) (p1 : Nat) (p4 : Nat) (p5 : Int32) (p6 : Int32), xlp5 (b_X6_spread_17 post) M p1 p4 p5 p6 → xW G M [some (.ref (xa G 5)), some (.ref (xa G p1)), none, none, some (.ref (xa G p4)), some (.int p5), some (.int p6)] [] 17 := by
  refine xlp5_W (W := fun M p1 p4 p5 p6 => xW G M [some (.ref (xa G 5)), some (.ref (xa G p1)), none, none, some (.ref (xa G p4)), some (.int p5), some (.int p6)] [] 17) (fun r17 hr17 => ?_)
  intro M p1 p4 p5 p6 h
  unfold b_X6_spread_17 at h
  refine x_iload hG dX6_spread_17 rfl ?_
  refine x_bipush (v := (48 : Int32)) hG dX6_spread_19 (by decide) ?_
  refine x_icmp_ge (tgt := 51) hG dX6_spread_21 (by decide) (fun hc1 => ?_) (fun hc1 => ?_)
  · have h := h.1 hc1
    exact x_vret hG hQ dX6_spread_51 h
  · have h := h.2 hc1
    refine x_iload hG dX6_spread_24 rfl ?_
    refine x_if_eq (tgt := 51) hG dX6_spread_26 (by decide) (fun hc2 => ?_) (fun hc2 => ?_)
    · have h := h.1 hc2
      exact x_vret hG hQ dX6_spread_51 h
    · have h := h.2 hc2
      refine x_aload_n hG dX6_spread_29 rfl rfl ?_
      refine x_aload_n hG dX6_spread_30 rfl rfl ?_
      refine x_aload hG dX6_spread_31 rfl ?_
      refine x_cVV2 hG dX6_spread_33 (fun ha => c_X6_sweepOn ha h) gX6_spread_X6_sweepOn rfl ⟨rfl, rfl⟩ hy_X6_sweepOn ⟨Nat.le_of_ble_eq_true rfl, Nat.le_of_ble_eq_true rfl⟩ (kd_lt (rfl : kd 5 = 6) (by decide)) (fun _ => xc_6 (rfl : kd 5 = 6)) rfl (Nat.le_of_ble_eq_true rfl) (fun M4 h => ?_)
      refine x_aload_n hG dX6_spread_36 rfl rfl ?_
      refine x_aload_n hG dX6_spread_37 rfl rfl ?_
      refine x_aload hG dX6_spread_38 rfl ?_
      refine x_cVI2 hG dX6_spread_40 (fun ha => c_X6_sweepAgainst ha h) gX6_spread_X6_sweepAgainst rfl ⟨rfl, rfl⟩ hy_X6_sweepAgainst ⟨Nat.le_of_ble_eq_true rfl, Nat.le_of_ble_eq_true rfl⟩ (kd_lt (rfl : kd 5 = 6) (by decide)) (fun _ => xc_6 (rfl : kd 5 = 6)) rfl (Nat.le_of_ble_eq_true rfl) (fun z5 M6 h => ?_)
      refine x_istore hG dX6_spread_43 (Nat.le_of_ble_eq_true rfl) rfl ?_
      refine x_iinc (v := _) hG dX6_spread_45 rfl (x_iincE (k := 1) (by decide)) (Nat.le_of_ble_eq_true rfl) rfl ?_
      refine x_goto (tgt := 17) hG dX6_spread_48 (by decide) ?_
      refine x_keep [true, true, false, false, true, true, true] rfl ?_
      exact hr17 _ _ _ _ _ h
set_option maxRecDepth 100000 in
set_option maxHeartbeats 4000000 in
theorem c_X6_spread {l : Launch} {a : Nat → Nat} {M : xMem} {p1 : Nat} {p2 : Int32} {p3 : Int32} {p4 : Nat} {post : xMem → Prop} (ha : xInj a) (h : w_X6_spread M p1 p2 p3 p4 post) : ∀ D cs sz, xMetV l yX6_spread wsX6_spread rm_X6_spread D a cs sz M [.ref (a 5), .ref (a p1), .int p2, .int p3, .ref (a p4)] post := by
  intro D cs sz
  unfold w_X6_spread at h
  refine x_metV [some (.ref (a 5)), some (.ref (a p1)), some (.int p2), some (.int p3), some (.ref (a p4)), none, none] (by decide) rfl rfl (Nat.le_of_ble_eq_true rfl) rfl rfl ha D cs sz rfl (fun G e1 e2 hG hQ => ?_)
  subst e1
  subst e2
  refine x_aload hG dX6_spread_0 rfl ?_
  refine x_iconst (v := (0 : Int32)) hG dX6_spread_2 (by decide) ?_
  refine x_cSV2 hG dX6_spread_3 (fun ha => c_J7_fill_53178 ha h) gX6_spread_J7_fill_53178 rfl ⟨rfl, rfl⟩ hy_J7_fill_53178 ⟨Nat.le_of_ble_eq_true rfl, Nat.le_of_ble_eq_true rfl⟩ (Nat.le_of_ble_eq_true rfl) (fun M2 h => ?_)
  refine x_aload hG dX6_spread_6 rfl ?_
  refine x_iload_n hG dX6_spread_8 rfl rfl ?_
  refine x_iload_n hG dX6_spread_9 rfl rfl ?_
  obtain ⟨hk3, h⟩ := h
  obtain ⟨hi4, h⟩ := h
  have h := h _ rfl
  refine x_iastore hG dX6_spread_10 hk3 hi4 ?_
  refine x_iconst (v := (1 : Int32)) hG dX6_spread_11 (by decide) ?_
  refine x_istore hG dX6_spread_12 (Nat.le_of_ble_eq_true rfl) rfl ?_
  refine x_iconst (v := (0 : Int32)) hG dX6_spread_14 (by decide) ?_
  refine x_istore hG dX6_spread_15 (Nat.le_of_ble_eq_true rfl) rfl ?_
  refine x_keep [true, true, false, false, true, true, true] rfl ?_
  exact k_X6_spread_17 hG hQ _ _ _ _ _ h
abbrev rm_X6_hearWorkers : Room := { frames := 4, cells := 0, slots := 0, locals := 98 }
theorem hy_X6_hearWorkers : yX6_hearWorkers.cls = RX6 ∧ yX6_hearWorkers.cls ≠ "java/lang/invoke/MethodHandle" ∧ yX6_hearWorkers.cls ≠ "java/lang/invoke/VarHandle" ∧ (parseMethodDescriptor yX6_hearWorkers.desc).map (fun d => d.parameters.length) = some 1 := by decide +kernel
theorem hin_X6_hearWorkers_X2 : ∀ w ∈ wsX20, w ∈ wsX6_hearWorkers := fun _ h => List.mem_cons_of_mem _ (List.mem_append_left _ (List.mem_append_left _ (List.mem_append_right _ h)))
theorem hin_X6_hearWorkers_X6 : ∀ w ∈ wsX60, w ∈ wsX6_hearWorkers := fun _ h => List.mem_cons_of_mem _ (List.mem_append_left _ (List.mem_append_right _ h))
set_option maxRecDepth 100000 in
set_option maxHeartbeats 4000000 in
theorem k_X6_hearWorkers_2 {G : xG} {post : xMem → Prop} (hG : xOk G cX6_hearWorkers RX6 wsX6_hearWorkers rm_X6_hearWorkers) (hQ : xRetV G post) : ∀ (M : xMem) (p1 : Nat) (p2 : Int32), xlp3 (b_X6_hearWorkers_2 post) M p1 p2 → xW G M [some (.ref (xa G 5)), some (.ref (xa G p1)), some (.int p2)] [] 2 := by
  refine xlp3_W (W := fun M p1 p2 => xW G M [some (.ref (xa G 5)), some (.ref (xa G p1)), some (.int p2)] [] 2) (fun r2 hr2 => ?_)
  intro M p1 p2 h
  unfold b_X6_hearWorkers_2 at h
  refine x_iload_n hG dX6_hearWorkers_2 rfl rfl ?_
  refine x_aload_n hG dX6_hearWorkers_3 rfl rfl ?_
  obtain ⟨hk1, h⟩ := h
  refine x_get_2_2 hG dX6_hearWorkers_4 hk1 hin_X6_hearWorkers_X2 (List.mem_of_getElem? (i := 1) rfl) ?_
  refine x_icmp_ge (tgt := 43) hG dX6_hearWorkers_7 (by decide) (fun hc2 => ?_) (fun hc2 => ?_)
  · have h := h.1 hc2
    exact x_vret hG hQ dX6_hearWorkers_43 h
  · have h := h.2 hc2
    refine x_aload_n hG dX6_hearWorkers_10 rfl rfl ?_
    refine x_aload_n hG dX6_hearWorkers_11 rfl rfl ?_
    refine x_aload_n hG dX6_hearWorkers_12 rfl rfl ?_
    refine x_get_2_5 hG dX6_hearWorkers_13 hk1 hin_X6_hearWorkers_X2 (List.mem_of_getElem? (i := 2) rfl) ?_
    refine x_iload_n hG dX6_hearWorkers_16 rfl rfl ?_
    obtain ⟨hi3, h⟩ := h
    refine x_aaload11 hG dX6_hearWorkers_17 (kf_2_5 hk1).1 (x_inE (kf_2_5 hk1).2 hi3) ?_
    refine x_iconst (v := (0 : Int32)) hG dX6_hearWorkers_18 (by decide) ?_
    refine x_iaload hG dX6_hearWorkers_19 (ke_2_5 hk1 (vp_lt hi3)).1 (x_inE (ke_2_5 hk1 (vp_lt hi3)).2 (x_inC (by decide))) ?_
    refine x_aload_n hG dX6_hearWorkers_20 rfl rfl ?_
    refine x_get_2_5 hG dX6_hearWorkers_21 hk1 hin_X6_hearWorkers_X2 (List.mem_of_getElem? (i := 2) rfl) ?_
    refine x_iload_n hG dX6_hearWorkers_24 rfl rfl ?_
    refine x_aaload11 hG dX6_hearWorkers_25 (kf_2_5 hk1).1 (x_inE (kf_2_5 hk1).2 hi3) ?_
    refine x_iconst (v := (1 : Int32)) hG dX6_hearWorkers_26 (by decide) ?_
    refine x_iaload hG dX6_hearWorkers_27 (ke_2_5 hk1 (vp_lt hi3)).1 (x_inE (ke_2_5 hk1 (vp_lt hi3)).2 (x_inC (by decide))) ?_
    refine x_aload_n hG dX6_hearWorkers_28 rfl rfl ?_
    refine x_get_6_0 hG dX6_hearWorkers_29 (rfl : kd 5 = 6) hin_X6_hearWorkers_X6 (List.mem_of_getElem? (i := 3) rfl) ?_
    refine x_iload_n hG dX6_hearWorkers_32 rfl rfl ?_
    obtain ⟨hi4, h⟩ := h
    refine x_aaload11 hG dX6_hearWorkers_33 (kf_6_0 (rfl : kd 5 = 6)).1 (x_inE (kf_6_0 (rfl : kd 5 = 6)).2 hi4) ?_
    refine x_cVV4 hG dX6_hearWorkers_34 (fun ha => c_X6_spread ha h) gX6_hearWorkers_X6_spread rfl ⟨rfl, rfl⟩ hy_X6_spread ⟨Nat.le_of_ble_eq_true rfl, Nat.le_of_ble_eq_true rfl⟩ (kd_lt (rfl : kd 5 = 6) (by decide)) (fun _ => xc_6 (rfl : kd 5 = 6)) rfl (Nat.le_of_ble_eq_true rfl) (fun M6 h => ?_)
    refine x_iinc (v := _) hG dX6_hearWorkers_37 rfl (x_iincE (k := 1) (by decide)) (Nat.le_of_ble_eq_true rfl) rfl ?_
    refine x_goto (tgt := 2) hG dX6_hearWorkers_40 (by decide) ?_
    refine x_keep [true, true, true] rfl ?_
    exact hr2 _ _ _ h
set_option maxRecDepth 100000 in
set_option maxHeartbeats 4000000 in
theorem c_X6_hearWorkers {l : Launch} {a : Nat → Nat} {M : xMem} {p1 : Nat} {post : xMem → Prop} (ha : xInj a) (h : w_X6_hearWorkers M p1 post) : ∀ D cs sz, xMetV l yX6_hearWorkers wsX6_hearWorkers rm_X6_hearWorkers D a cs sz M [.ref (a 5), .ref (a p1)] post := by
  intro D cs sz
  unfold w_X6_hearWorkers at h
  refine x_metV [some (.ref (a 5)), some (.ref (a p1)), none] (by decide) rfl rfl (Nat.le_of_ble_eq_true rfl) rfl rfl ha D cs sz rfl (fun G e1 e2 hG hQ => ?_)
  subst e1
  subst e2
  refine x_iconst (v := (0 : Int32)) hG dX6_hearWorkers_0 (by decide) ?_
  refine x_istore_n hG dX6_hearWorkers_1 rfl (Nat.le_of_ble_eq_true rfl) rfl ?_
  refine x_keep [true, true, true] rfl ?_
  exact k_X6_hearWorkers_2 hG hQ _ _ _ h
abbrev rm_X6_hearSaw : Room := { frames := 4, cells := 0, slots := 0, locals := 98 }
theorem hy_X6_hearSaw : yX6_hearSaw.cls = RX6 ∧ yX6_hearSaw.cls ≠ "java/lang/invoke/MethodHandle" ∧ yX6_hearSaw.cls ≠ "java/lang/invoke/VarHandle" ∧ (parseMethodDescriptor yX6_hearSaw.desc).map (fun d => d.parameters.length) = some 3 := by decide +kernel
theorem hin_X6_hearSaw_X6 : ∀ w ∈ wsX60, w ∈ wsX6_hearSaw := fun _ h => List.mem_cons_of_mem _ (List.mem_append_left _ (List.mem_append_left _ (List.mem_append_right _ h)))
set_option maxRecDepth 100000 in
set_option maxHeartbeats 4000000 in
theorem c_X6_hearSaw {l : Launch} {a : Nat → Nat} {M : xMem} {p1 : Nat} {p2 : Int32} {p3 : Int32} {post : xMem → Prop} (ha : xInj a) (h : w_X6_hearSaw M p1 p2 p3 post) : ∀ D cs sz, xMetV l yX6_hearSaw wsX6_hearSaw rm_X6_hearSaw D a cs sz M [.ref (a 5), .ref (a p1), .int p2, .int p3] post := by
  intro D cs sz
  unfold w_X6_hearSaw at h
  refine x_metV [some (.ref (a 5)), some (.ref (a p1)), some (.int p2), some (.int p3)] (by decide) rfl rfl (Nat.le_of_ble_eq_true rfl) rfl rfl ha D cs sz rfl (fun G e1 e2 hG hQ => ?_)
  subst e1
  subst e2
  refine x_aload_n hG dX6_hearSaw_0 rfl rfl ?_
  refine x_aload_n hG dX6_hearSaw_1 rfl rfl ?_
  refine x_iload_n hG dX6_hearSaw_2 rfl rfl ?_
  refine x_iload_n hG dX6_hearSaw_3 rfl rfl ?_
  refine x_aload_n hG dX6_hearSaw_4 rfl rfl ?_
  refine x_get_6_1 hG dX6_hearSaw_5 (rfl : kd 5 = 6) hin_X6_hearSaw_X6 (List.mem_of_getElem? (i := 1) rfl) ?_
  refine x_cVV4 hG dX6_hearSaw_8 (fun ha => c_X6_spread ha h) gX6_hearSaw_X6_spread rfl ⟨rfl, rfl⟩ hy_X6_spread ⟨Nat.le_of_ble_eq_true rfl, Nat.le_of_ble_eq_true rfl⟩ (kd_lt (rfl : kd 5 = 6) (by decide)) (fun _ => xc_6 (rfl : kd 5 = 6)) rfl (Nat.le_of_ble_eq_true rfl) (fun M2 h => ?_)
  exact x_vret hG hQ dX6_hearSaw_11 h
abbrev rm_X6_heardIn : Room := { frames := 0, cells := 0, slots := 0, locals := 0 }
theorem hy_X6_heardIn : yX6_heardIn.cls = RX6 ∧ yX6_heardIn.cls ≠ "java/lang/invoke/MethodHandle" ∧ yX6_heardIn.cls ≠ "java/lang/invoke/VarHandle" ∧ (parseMethodDescriptor yX6_heardIn.desc).map (fun d => d.parameters.length) = some 3 := by decide +kernel
theorem hin_X6_heardIn_X2 : ∀ w ∈ wsX20, w ∈ wsX6_heardIn := fun _ h => List.mem_cons_of_mem _ (List.mem_append_left _ (List.mem_append_right _ h))
theorem hin_X6_heardIn_X6 : ∀ w ∈ wsX60, w ∈ wsX6_heardIn := fun _ h => List.mem_cons_of_mem _ (List.mem_append_right _ h)
set_option maxRecDepth 100000 in
set_option maxHeartbeats 4000000 in
theorem k_X6_heardIn_38 {G : xG} {post : Int32 → xMem → Prop} (hG : xOk G cX6_heardIn RX6 wsX6_heardIn rm_X6_heardIn) (hQ : xRetI G post .int) {r6 : xMem → Nat → Int32 → Int32 → Int32 → Int32 → Prop} (hr6 : ∀ (M : xMem) (p1 : Nat) (p2 : Int32) (p3 : Int32) (p4 : Int32) (p5 : Int32), r6 M p1 p2 p3 p4 p5 → xW G M [some (.ref (xa G 5)), some (.ref (xa G p1)), some (.int p2), some (.int p3), some (.int p4), some (.int p5)] [] 6) : ∀ (M : xMem) (p1 : Nat) (p2 : Int32) (p3 : Int32) (p4 : Int32) (p5 : Int32), b_X6_heardIn_38 post r6 M p1 p2 p3 p4 p5 → xW G M [some (.ref (xa G 5)), some (.ref (xa G p1)), some (.int p2), some (.int p3), some (.int p4), some (.int p5)] [] 38 := by
  intro M p1 p2 p3 p4 p5 h
  unfold b_X6_heardIn_38 at h
  refine x_iinc (v := _) hG dX6_heardIn_38 rfl (x_iincE (k := 1) (by decide)) (Nat.le_of_ble_eq_true rfl) rfl ?_
  refine x_goto (tgt := 6) hG dX6_heardIn_41 (by decide) ?_
  refine x_keep [true, true, true, true, true, true] rfl ?_
  exact hr6 _ _ _ _ _ _ h
set_option maxRecDepth 100000 in
set_option maxHeartbeats 4000000 in
theorem k_X6_heardIn_6 {G : xG} {post : Int32 → xMem → Prop} (hG : xOk G cX6_heardIn RX6 wsX6_heardIn rm_X6_heardIn) (hQ : xRetI G post .int) : ∀ (M : xMem) (p1 : Nat) (p2 : Int32) (p3 : Int32) (p4 : Int32) (p5 : Int32), xlp6 (b_X6_heardIn_6 post) M p1 p2 p3 p4 p5 → xW G M [some (.ref (xa G 5)), some (.ref (xa G p1)), some (.int p2), some (.int p3), some (.int p4), some (.int p5)] [] 6 := by
  refine xlp6_W (W := fun M p1 p2 p3 p4 p5 => xW G M [some (.ref (xa G 5)), some (.ref (xa G p1)), some (.int p2), some (.int p3), some (.int p4), some (.int p5)] [] 6) (fun r6 hr6 => ?_)
  intro M p1 p2 p3 p4 p5 h
  unfold b_X6_heardIn_6 at h
  refine x_iload hG dX6_heardIn_6 rfl ?_
  refine x_aload_n hG dX6_heardIn_8 rfl rfl ?_
  obtain ⟨hk1, h⟩ := h
  refine x_get_2_2 hG dX6_heardIn_9 hk1 hin_X6_heardIn_X2 (List.mem_of_getElem? (i := 1) rfl) ?_
  refine x_icmp_ge (tgt := 44) hG dX6_heardIn_12 (by decide) (fun hc2 => ?_) (fun hc2 => ?_)
  · have h := h.1 hc2
    refine x_iload hG dX6_heardIn_44 rfl ?_
    exact x_iret hG hQ dX6_heardIn_46 rfl h
  · have h := h.2 hc2
    refine x_iload_n hG dX6_heardIn_15 rfl rfl ?_
    refine x_iload hG dX6_heardIn_16 rfl ?_
    refine x_ishr hG dX6_heardIn_18 ?_
    refine x_iconst (v := (1 : Int32)) hG dX6_heardIn_19 (by decide) ?_
    refine x_iand hG dX6_heardIn_20 ?_
    refine x_if_eq (tgt := 38) hG dX6_heardIn_21 (by decide) (fun hc3 => ?_) (fun hc3 => ?_)
    · have h := h.1 hc3
      refine x_keep [true, true, true, true, true, true] rfl ?_
      exact k_X6_heardIn_38 hG hQ hr6 _ _ _ _ _ _ h
    · have h := h.2 hc3
      refine x_iload hG dX6_heardIn_24 rfl ?_
      refine x_aload_n hG dX6_heardIn_26 rfl rfl ?_
      refine x_get_6_0 hG dX6_heardIn_27 (rfl : kd 5 = 6) hin_X6_heardIn_X6 (List.mem_of_getElem? (i := 2) rfl) ?_
      refine x_iload hG dX6_heardIn_30 rfl ?_
      obtain ⟨hi4, h⟩ := h
      refine x_aaload11 hG dX6_heardIn_32 (kf_6_0 (rfl : kd 5 = 6)).1 (x_inE (kf_6_0 (rfl : kd 5 = 6)).2 hi4) ?_
      refine x_iload_n hG dX6_heardIn_33 rfl rfl ?_
      obtain ⟨hi5, h⟩ := h
      refine x_iaload hG dX6_heardIn_34 (ke_6_0 (rfl : kd 5 = 6) (vp_lt hi4)).1 (x_inE (ke_6_0 (rfl : kd 5 = 6) (vp_lt hi4)).2 hi5) ?_
      refine x_iadd hG dX6_heardIn_35 ?_
      have h := h _ rfl
      refine x_istore hG dX6_heardIn_36 (Nat.le_of_ble_eq_true rfl) rfl ?_
      refine x_keep [true, true, true, true, true, true] rfl ?_
      exact k_X6_heardIn_38 hG hQ hr6 _ _ _ _ _ _ h
set_option maxRecDepth 100000 in
set_option maxHeartbeats 4000000 in
theorem c_X6_heardIn {l : Launch} {a : Nat → Nat} {M : xMem} {p1 : Nat} {p2 : Int32} {p3 : Int32} {post : Int32 → xMem → Prop} (ha : xInj a) (h : w_X6_heardIn M p1 p2 p3 post) : ∀ D cs sz, xMetI l yX6_heardIn wsX6_heardIn rm_X6_heardIn D a cs sz M [.ref (a 5), .ref (a p1), .int p2, .int p3] post := by
  intro D cs sz
  unfold w_X6_heardIn at h
  refine x_metI (ty := .int) [some (.ref (a 5)), some (.ref (a p1)), some (.int p2), some (.int p3), none, none] (by decide) rfl rfl (Nat.le_of_ble_eq_true rfl) rfl rfl ha D cs sz rfl (fun G e1 e2 hG hQ => ?_)
  subst e1
  subst e2
  refine x_iconst (v := (0 : Int32)) hG dX6_heardIn_0 (by decide) ?_
  refine x_istore hG dX6_heardIn_1 (Nat.le_of_ble_eq_true rfl) rfl ?_
  refine x_iconst (v := (0 : Int32)) hG dX6_heardIn_3 (by decide) ?_
  refine x_istore hG dX6_heardIn_4 (Nat.le_of_ble_eq_true rfl) rfl ?_
  refine x_keep [true, true, true, true, true, true] rfl ?_
  exact k_X6_heardIn_6 hG hQ _ _ _ _ _ _ h
abbrev rm_X7_append : Room := { frames := 0, cells := 0, slots := 0, locals := 0 }
theorem hy_X7_append : yX7_append.cls = RX7 ∧ yX7_append.cls ≠ "java/lang/invoke/MethodHandle" ∧ yX7_append.cls ≠ "java/lang/invoke/VarHandle" ∧ (parseMethodDescriptor yX7_append.desc).map (fun d => d.parameters.length) = some 2 := by decide +kernel
theorem hin_X7_append_X7 : ∀ w ∈ wsX70, w ∈ wsX7_append := fun _ h => List.mem_cons_of_mem _ (List.mem_append_right _ h)
set_option maxRecDepth 100000 in
set_option maxHeartbeats 4000000 in
theorem k_X7_append_20 {G : xG} {post : Int32 → xMem → Prop} (hG : xOk G cX7_append RX7 wsX7_append rm_X7_append) (hQ : xRetI G post .int) : ∀ (M : xMem) (p1 : Int64) (p4 : Int32), xlp3 (b_X7_append_20 post) M p1 p4 → xW G M [some (.ref (xa G 2)), some (.long p1), none, none, some (.int p4)] [] 20 := by
  refine xlp3_W (W := fun M p1 p4 => xW G M [some (.ref (xa G 2)), some (.long p1), none, none, some (.int p4)] [] 20) (fun r20 hr20 => ?_)
  intro M p1 p4 h
  unfold b_X7_append_20 at h
  refine x_iload hG dX7_append_20 rfl ?_
  refine x_if_lt (tgt := 62) hG dX7_append_22 (by decide) (fun hc1 => ?_) (fun hc1 => ?_)
  · have h := h.1 hc1
    refine x_aload_n hG dX7_append_62 rfl rfl ?_
    refine x_get_7_1 hG dX7_append_63 (rfl : kd 2 = 7) hin_X7_append_X7 (List.mem_of_getElem? (i := 1) rfl) ?_
    exact x_iret hG hQ dX7_append_66 rfl h
  · have h := h.2 hc1
    refine x_aload_n hG dX7_append_25 rfl rfl ?_
    refine x_get_7_0 hG dX7_append_26 (rfl : kd 2 = 7) hin_X7_append_X7 (List.mem_of_getElem? (i := 2) rfl) ?_
    refine x_aload_n hG dX7_append_29 rfl rfl ?_
    refine x_get_7_1 hG dX7_append_30 (rfl : kd 2 = 7) hin_X7_append_X7 (List.mem_of_getElem? (i := 1) rfl) ?_
    refine x_lload_n hG dX7_append_33 rfl rfl ?_
    refine x_bipush (v := (8 : Int32)) hG dX7_append_34 (by decide) ?_
    refine x_iload hG dX7_append_36 rfl ?_
    refine x_imul hG dX7_append_38 ?_
    refine x_lushr hG dX7_append_39 ?_
    refine x_l2i hG dX7_append_40 ?_
    refine x_sipush (v := (255 : Int32)) hG dX7_append_41 (by decide) ?_
    refine x_iand hG dX7_append_44 ?_
    obtain ⟨hi2, h⟩ := h
    have h := h _ rfl
    refine x_iastore hG dX7_append_45 (kf_7_0 (rfl : kd 2 = 7)).1 (x_inE (kf_7_0 (rfl : kd 2 = 7)).2 hi2) ?_
    refine x_aload_n hG dX7_append_46 rfl rfl ?_
    refine x_dup hG dX7_append_47 rfl ?_
    refine x_get_7_1 hG dX7_append_48 (rfl : kd 2 = 7) hin_X7_append_X7 (List.mem_of_getElem? (i := 1) rfl) ?_
    refine x_iconst (v := (1 : Int32)) hG dX7_append_51 (by decide) ?_
    refine x_iadd hG dX7_append_52 ?_
    have h := h _ rfl
    refine x_put_7_1 hG dX7_append_53 (rfl : kd 2 = 7) hin_X7_append_X7 (List.mem_of_getElem? (i := 1) rfl) ?_
    refine x_iinc (v := _) hG dX7_append_56 rfl (x_iincE (k := (-1)) (by decide)) (Nat.le_of_ble_eq_true rfl) rfl ?_
    refine x_goto (tgt := 20) hG dX7_append_59 (by decide) ?_
    refine x_keep [true, true, false, false, true] rfl ?_
    exact hr20 _ _ _ h
set_option maxRecDepth 100000 in
set_option maxHeartbeats 4000000 in
theorem c_X7_append {l : Launch} {a : Nat → Nat} {M : xMem} {p1 : Int64} {p3 : Int32} {post : Int32 → xMem → Prop} (ha : xInj a) (h : w_X7_append M p1 p3 post) : ∀ D cs sz, xMetI l yX7_append wsX7_append rm_X7_append D a cs sz M [.ref (a 2), .long p1, .int p3] post := by
  intro D cs sz
  unfold w_X7_append at h
  refine x_metI (ty := .int) [some (.ref (a 2)), some (.long p1), none, some (.int p3), none] (by decide) rfl rfl (Nat.le_of_ble_eq_true rfl) rfl rfl ha D cs sz rfl (fun G e1 e2 hG hQ => ?_)
  subst e1
  subst e2
  refine x_iload_n hG dX7_append_0 rfl rfl ?_
  refine x_sipush (v := (400 : Int32)) hG dX7_append_1 (by decide) ?_
  refine x_aload_n hG dX7_append_4 rfl rfl ?_
  refine x_get_7_1 hG dX7_append_5 (rfl : kd 2 = 7) hin_X7_append_X7 (List.mem_of_getElem? (i := 1) rfl) ?_
  refine x_isub hG dX7_append_8 ?_
  refine x_icmp_le (tgt := 15) hG dX7_append_9 (by decide) (fun hc1 => ?_) (fun hc1 => ?_)
  · have h := h.1 hc1
    refine x_iload_n hG dX7_append_15 rfl rfl ?_
    refine x_iconst (v := (1 : Int32)) hG dX7_append_16 (by decide) ?_
    refine x_isub hG dX7_append_17 ?_
    refine x_istore hG dX7_append_18 (Nat.le_of_ble_eq_true rfl) rfl ?_
    refine x_keep [true, true, false, false, true] rfl ?_
    exact k_X7_append_20 hG hQ _ _ _ h
  · have h := h.2 hc1
    refine x_bipush (v := (-3 : Int32)) hG dX7_append_12 (by decide) ?_
    exact x_iret hG hQ dX7_append_14 rfl h
abbrev rm_X7_empty : Room := { frames := 0, cells := 0, slots := 0, locals := 0 }
theorem hy_X7_empty : yX7_empty.cls = RX7 ∧ yX7_empty.cls ≠ "java/lang/invoke/MethodHandle" ∧ yX7_empty.cls ≠ "java/lang/invoke/VarHandle" ∧ (parseMethodDescriptor yX7_empty.desc).map (fun d => d.parameters.length) = some 0 := by decide +kernel
theorem hin_X7_empty_X7 : ∀ w ∈ wsX70, w ∈ wsX7_empty := fun _ h => List.mem_cons_of_mem _ (List.mem_append_right _ h)
set_option maxRecDepth 100000 in
set_option maxHeartbeats 4000000 in
theorem c_X7_empty {l : Launch} {a : Nat → Nat} {M : xMem} {post : Int32 → xMem → Prop} (ha : xInj a) (h : w_X7_empty M post) : ∀ D cs sz, xMetI l yX7_empty wsX7_empty rm_X7_empty D a cs sz M [.ref (a 2)] post := by
  intro D cs sz
  unfold w_X7_empty at h
  refine x_metI (ty := .int) [some (.ref (a 2)), none] (by decide) rfl rfl (Nat.le_of_ble_eq_true rfl) rfl rfl ha D cs sz rfl (fun G e1 e2 hG hQ => ?_)
  subst e1
  subst e2
  refine x_aload_n hG dX7_empty_0 rfl rfl ?_
  refine x_get_7_1 hG dX7_empty_1 (rfl : kd 2 = 7) hin_X7_empty_X7 (List.mem_of_getElem? (i := 1) rfl) ?_
  refine x_istore_n hG dX7_empty_4 rfl (Nat.le_of_ble_eq_true rfl) rfl ?_
  refine x_aload_n hG dX7_empty_5 rfl rfl ?_
  refine x_iconst (v := (0 : Int32)) hG dX7_empty_6 (by decide) ?_
  have h := h _ rfl
  refine x_put_7_1 hG dX7_empty_7 (rfl : kd 2 = 7) hin_X7_empty_X7 (List.mem_of_getElem? (i := 1) rfl) ?_
  refine x_iload_n hG dX7_empty_10 rfl rfl ?_
  exact x_iret hG hQ dX7_empty_11 rfl h
abbrev rm_X8_type : Room := { frames := 1, cells := 0, slots := 0, locals := 24 }
theorem hy_X8_type : yX8_type.cls = RX8 ∧ yX8_type.cls ≠ "java/lang/invoke/MethodHandle" ∧ yX8_type.cls ≠ "java/lang/invoke/VarHandle" ∧ (parseMethodDescriptor yX8_type.desc).map (fun d => d.parameters.length) = some 2 := by decide +kernel
theorem hin_X8_type_X5 : ∀ w ∈ wsX50, w ∈ wsX8_type := fun _ h => List.mem_cons_of_mem _ (List.mem_append_left _ (List.mem_append_right _ h))
theorem hin_X8_type_X8 : ∀ w ∈ wsX80, w ∈ wsX8_type := fun _ h => List.mem_cons_of_mem _ (List.mem_append_left _ (List.mem_append_left _ (List.mem_append_right _ h)))
set_option maxRecDepth 100000 in
set_option maxHeartbeats 4000000 in
theorem c_X8_type {l : Launch} {a : Nat → Nat} {M : xMem} {p1 : Int64} {p3 : Int32} {post : Int32 → xMem → Prop} (ha : xInj a) (h : w_X8_type M p1 p3 post) : ∀ D cs sz, xMetI l yX8_type wsX8_type rm_X8_type D a cs sz M [.ref (a 0), .long p1, .int p3] post := by
  intro D cs sz
  unfold w_X8_type at h
  refine x_metI (ty := .int) [some (.ref (a 0)), some (.long p1), none, some (.int p3)] (by decide) rfl rfl (Nat.le_of_ble_eq_true rfl) rfl rfl ha D cs sz rfl (fun G e1 e2 hG hQ => ?_)
  subst e1
  subst e2
  refine x_iload_n hG dX8_type_0 rfl rfl ?_
  refine x_iconst (v := (1 : Int32)) hG dX8_type_1 (by decide) ?_
  refine x_bipush (v := (8 : Int32)) hG dX8_type_2 (by decide) ?_
  refine x_cSI3 hG dX8_type_4 (fun ha => c_X8_within ha h) gX8_type_X8_within rfl ⟨rfl, rfl⟩ hy_X8_within ⟨Nat.le_of_ble_eq_true rfl, Nat.le_of_ble_eq_true rfl⟩ (Nat.le_of_ble_eq_true rfl) (fun z1 M2 h => ?_)
  refine x_if_ne (tgt := 12) hG dX8_type_7 (by decide) (fun hc3 => ?_) (fun hc3 => ?_)
  · have h := h.1 hc3
    refine x_aload_n hG dX8_type_12 rfl rfl ?_
    refine x_get_8_0 hG dX8_type_13 (rfl : kd 0 = 8) hin_X8_type_X8 (List.mem_of_getElem? (i := 1) rfl) ?_
    refine x_get_5_0 hG dX8_type_16 (kf_8_0 (rfl : kd 0 = 8)).1 hin_X8_type_X5 (List.mem_of_getElem? (i := 2) rfl) ?_
    refine x_lload_n hG dX8_type_19 rfl rfl ?_
    refine x_iload_n hG dX8_type_20 rfl rfl ?_
    refine x_cVI2 hG dX8_type_21 (fun ha => c_X7_append ha h) gX8_type_X7_append rfl ⟨rfl, rfl⟩ hy_X7_append ⟨Nat.le_of_ble_eq_true rfl, Nat.le_of_ble_eq_true rfl⟩ (kd_lt (rfl : kd 2 = 7) (by decide)) (fun _ => xc_7 (rfl : kd 2 = 7)) rfl (Nat.le_of_ble_eq_true rfl) (fun z4 M5 h => ?_)
    exact x_iret hG hQ dX8_type_24 rfl h
  · have h := h.2 hc3
    refine x_iconst (v := (-1 : Int32)) hG dX8_type_10 (by decide) ?_
    exact x_iret hG hQ dX8_type_11 rfl h
abbrev rm_X8_clear : Room := { frames := 1, cells := 0, slots := 0, locals := 21 }
theorem hy_X8_clear : yX8_clear.cls = RX8 ∧ yX8_clear.cls ≠ "java/lang/invoke/MethodHandle" ∧ yX8_clear.cls ≠ "java/lang/invoke/VarHandle" ∧ (parseMethodDescriptor yX8_clear.desc).map (fun d => d.parameters.length) = some 0 := by decide +kernel
theorem hin_X8_clear_X5 : ∀ w ∈ wsX50, w ∈ wsX8_clear := fun _ h => List.mem_cons_of_mem _ (List.mem_append_left _ (List.mem_append_right _ h))
theorem hin_X8_clear_X8 : ∀ w ∈ wsX80, w ∈ wsX8_clear := fun _ h => List.mem_cons_of_mem _ (List.mem_append_left _ (List.mem_append_left _ (List.mem_append_right _ h)))
set_option maxRecDepth 100000 in
set_option maxHeartbeats 4000000 in
theorem c_X8_clear {l : Launch} {a : Nat → Nat} {M : xMem} {post : Int32 → xMem → Prop} (ha : xInj a) (h : w_X8_clear M post) : ∀ D cs sz, xMetI l yX8_clear wsX8_clear rm_X8_clear D a cs sz M [.ref (a 0)] post := by
  intro D cs sz
  unfold w_X8_clear at h
  refine x_metI (ty := .int) [some (.ref (a 0))] (by decide) rfl rfl (Nat.le_of_ble_eq_true rfl) rfl rfl ha D cs sz rfl (fun G e1 e2 hG hQ => ?_)
  subst e1
  subst e2
  refine x_aload_n hG dX8_clear_0 rfl rfl ?_
  refine x_get_8_0 hG dX8_clear_1 (rfl : kd 0 = 8) hin_X8_clear_X8 (List.mem_of_getElem? (i := 1) rfl) ?_
  refine x_get_5_0 hG dX8_clear_4 (kf_8_0 (rfl : kd 0 = 8)).1 hin_X8_clear_X5 (List.mem_of_getElem? (i := 2) rfl) ?_
  refine x_cVI0 hG dX8_clear_7 (fun ha => c_X7_empty ha h) gX8_clear_X7_empty rfl ⟨rfl, rfl⟩ hy_X7_empty ⟨Nat.le_of_ble_eq_true rfl, Nat.le_of_ble_eq_true rfl⟩ (kd_lt (rfl : kd 2 = 7) (by decide)) (fun _ => xc_7 (rfl : kd 2 = 7)) rfl (Nat.le_of_ble_eq_true rfl) (fun z1 M2 h => ?_)
  exact x_iret hG hQ dX8_clear_10 rfl h
abbrev rm_X8_listen : Room := { frames := 5, cells := 0, slots := 0, locals := 120 }
theorem hy_X8_listen : yX8_listen.cls = RX8 ∧ yX8_listen.cls ≠ "java/lang/invoke/MethodHandle" ∧ yX8_listen.cls ≠ "java/lang/invoke/VarHandle" ∧ (parseMethodDescriptor yX8_listen.desc).map (fun d => d.parameters.length) = some 0 := by decide +kernel
theorem hin_X8_listen_X6 : ∀ w ∈ wsX60, w ∈ wsX8_listen := fun _ h => List.mem_cons_of_mem _ (List.mem_append_left _ (List.mem_append_left _ (List.mem_append_left _ (List.mem_append_right _ h))))
theorem hin_X8_listen_X8 : ∀ w ∈ wsX80, w ∈ wsX8_listen := fun _ h => List.mem_cons_of_mem _ (List.mem_append_left _ (List.mem_append_left _ (List.mem_append_left _ (List.mem_append_left _ (List.mem_append_right _ h)))))
set_option maxRecDepth 100000 in
set_option maxHeartbeats 4000000 in
theorem c_X8_listen {l : Launch} {a : Nat → Nat} {M : xMem} {post : xMem → Prop} (ha : xInj a) (h : w_X8_listen M post) : ∀ D cs sz, xMetV l yX8_listen wsX8_listen rm_X8_listen D a cs sz M [.ref (a 0)] post := by
  intro D cs sz
  unfold w_X8_listen at h
  refine x_metV [some (.ref (a 0))] (by decide) rfl rfl (Nat.le_of_ble_eq_true rfl) rfl rfl ha D cs sz rfl (fun G e1 e2 hG hQ => ?_)
  subst e1
  subst e2
  refine x_aload_n hG dX8_listen_0 rfl rfl ?_
  refine x_get_8_1 hG dX8_listen_1 (rfl : kd 0 = 8) hin_X8_listen_X8 (List.mem_of_getElem? (i := 1) rfl) ?_
  refine x_aload_n hG dX8_listen_4 rfl rfl ?_
  refine x_get_8_5 hG dX8_listen_5 (rfl : kd 0 = 8) hin_X8_listen_X8 (List.mem_of_getElem? (i := 2) rfl) ?_
  refine x_cVV1 hG dX8_listen_8 (fun ha => c_X6_hearWorkers ha h) gX8_listen_X6_hearWorkers rfl ⟨rfl, rfl⟩ hy_X6_hearWorkers ⟨Nat.le_of_ble_eq_true rfl, Nat.le_of_ble_eq_true rfl⟩ (kd_lt (rfl : kd 5 = 6) (by decide)) (fun _ => xc_6 (rfl : kd 5 = 6)) rfl (Nat.le_of_ble_eq_true rfl) (fun M2 h => ?_)
  refine x_aload_n hG dX8_listen_11 rfl rfl ?_
  refine x_get_8_2 hG dX8_listen_12 (rfl : kd 0 = 8) hin_X8_listen_X8 (List.mem_of_getElem? (i := 3) rfl) ?_
  refine x_aload_n hG dX8_listen_15 rfl rfl ?_
  refine x_get_8_5 hG dX8_listen_16 (rfl : kd 0 = 8) hin_X8_listen_X8 (List.mem_of_getElem? (i := 2) rfl) ?_
  refine x_aload_n hG dX8_listen_19 rfl rfl ?_
  refine x_get_8_1 hG dX8_listen_20 (rfl : kd 0 = 8) hin_X8_listen_X8 (List.mem_of_getElem? (i := 1) rfl) ?_
  refine x_get_6_0 hG dX8_listen_23 (kf_8_1 (rfl : kd 0 = 8)).1 hin_X8_listen_X6 (List.mem_of_getElem? (i := 4) rfl) ?_
  refine x_cVV2 hG dX8_listen_26 (fun ha => c_X4_weigh ha h) gX8_listen_X4_weigh rfl ⟨rfl, rfl⟩ hy_X4_weigh ⟨Nat.le_of_ble_eq_true rfl, Nat.le_of_ble_eq_true rfl⟩ (kd_lt (rfl : kd 14 = 4) (by decide)) (fun _ => xc_4 (rfl : kd 14 = 4)) rfl (Nat.le_of_ble_eq_true rfl) (fun M4 h => ?_)
  exact x_vret hG hQ dX8_listen_29 h
abbrev rm_X8_hill : Room := { frames := 10, cells := 0, slots := 0, locals := 217 }
theorem hy_X8_hill : yX8_hill.cls = RX8 ∧ yX8_hill.cls ≠ "java/lang/invoke/MethodHandle" ∧ yX8_hill.cls ≠ "java/lang/invoke/VarHandle" ∧ (parseMethodDescriptor yX8_hill.desc).map (fun d => d.parameters.length) = some 0 := by decide +kernel
theorem hin_X8_hill_X3 : ∀ w ∈ wsX30, w ∈ wsX8_hill := fun _ h => List.mem_cons_of_mem _ (List.mem_append_left _ (List.mem_append_left _ (List.mem_append_left _ (List.mem_append_left _ (List.mem_append_left _ (List.mem_append_left _ (List.mem_append_right _ h)))))))
theorem hin_X8_hill_X5 : ∀ w ∈ wsX50, w ∈ wsX8_hill := fun _ h => List.mem_cons_of_mem _ (List.mem_append_left _ (List.mem_append_left _ (List.mem_append_left _ (List.mem_append_left _ (List.mem_append_left _ (List.mem_append_left _ (List.mem_append_left _ (List.mem_append_right _ h))))))))
theorem hin_X8_hill_X8 : ∀ w ∈ wsX80, w ∈ wsX8_hill := fun _ h => List.mem_cons_of_mem _ (List.mem_append_left _ (List.mem_append_left _ (List.mem_append_left _ (List.mem_append_left _ (List.mem_append_left _ (List.mem_append_left _ (List.mem_append_left _ (List.mem_append_left _ (List.mem_append_right _ h)))))))))
set_option maxRecDepth 100000 in
set_option maxHeartbeats 4000000 in
theorem k_X8_hill_64 {G : xG} {post : Int32 → xMem → Prop} (hG : xOk G cX8_hill RX8 wsX8_hill rm_X8_hill) (hQ : xRetI G post .int) : ∀ (M : xMem) (p1 : Int32) (p3 : Int32), xlp3 (b_X8_hill_64 post) M p1 p3 → xW G M [some (.ref (xa G 0)), some (.int p1), none, some (.int p3)] [] 64 := by
  refine xlp3_W (W := fun M p1 p3 => xW G M [some (.ref (xa G 0)), some (.int p1), none, some (.int p3)] [] 64) (fun r64 hr64 => ?_)
  intro M p1 p3 h
  unfold b_X8_hill_64 at h
  refine x_iload_n hG dX8_hill_64 rfl rfl ?_
  refine x_iconst (v := (2 : Int32)) hG dX8_hill_65 (by decide) ?_
  refine x_icmp_ge (tgt := 85) hG dX8_hill_66 (by decide) (fun hc1 => ?_) (fun hc1 => ?_)
  · have h := h.1 hc1
    refine x_aload_n hG dX8_hill_85 rfl rfl ?_
    refine x_cVV0 hG dX8_hill_86 (fun ha => c_X8_listen ha h) gX8_hill_X8_listen rfl ⟨rfl, rfl⟩ hy_X8_listen ⟨Nat.le_of_ble_eq_true rfl, Nat.le_of_ble_eq_true rfl⟩ (kd_lt (rfl : kd 0 = 8) (by decide)) (fun _ => xc_8 (rfl : kd 0 = 8)) rfl (Nat.le_of_ble_eq_true rfl) (fun M3 h => ?_)
    refine x_iload_n hG dX8_hill_89 rfl rfl ?_
    exact x_iret hG hQ dX8_hill_90 rfl h
  · have h := h.2 hc1
    refine x_aload_n hG dX8_hill_69 rfl rfl ?_
    refine x_get_8_4 hG dX8_hill_70 (rfl : kd 0 = 8) hin_X8_hill_X8 (List.mem_of_getElem? (i := 6) rfl) ?_
    refine x_iload_n hG dX8_hill_73 rfl rfl ?_
    obtain ⟨hi4, h⟩ := h
    refine x_aaload12 hG dX8_hill_74 (kf_8_4 (rfl : kd 0 = 8)).1 (x_inE (kf_8_4 (rfl : kd 0 = 8)).2 hi4) ?_
    refine x_iconst (v := (0 : Int32)) hG dX8_hill_75 (by decide) ?_
    have h := h _ rfl
    refine x_put_3_2 hG dX8_hill_76 (ke_12 (kf_8_4 (rfl : kd 0 = 8)).1 (vp_lt (x_inE (kf_8_4 (rfl : kd 0 = 8)).2 hi4))) (by decide) hin_X8_hill_X3 (List.mem_of_getElem? (i := 7) rfl) ?_
    refine x_iinc (v := _) hG dX8_hill_79 rfl (x_iincE (k := 1) (by decide)) (Nat.le_of_ble_eq_true rfl) rfl ?_
    refine x_goto (tgt := 64) hG dX8_hill_82 (by decide) ?_
    refine x_keep [true, true, false, true] rfl ?_
    exact hr64 _ _ _ h
set_option maxRecDepth 100000 in
set_option maxHeartbeats 4000000 in
theorem c_X8_hill {l : Launch} {a : Nat → Nat} {M : xMem} {post : Int32 → xMem → Prop} (ha : xInj a) (h : w_X8_hill M post) : ∀ D cs sz, xMetI l yX8_hill wsX8_hill rm_X8_hill D a cs sz M [.ref (a 0)] post := by
  intro D cs sz
  unfold w_X8_hill at h
  refine x_metI (ty := .int) [some (.ref (a 0)), none, none, none] (by decide) rfl rfl (Nat.le_of_ble_eq_true rfl) rfl rfl ha D cs sz rfl (fun G e1 e2 hG hQ => ?_)
  subst e1
  subst e2
  refine x_aload_n hG dX8_hill_0 rfl rfl ?_
  refine x_get_8_0 hG dX8_hill_1 (rfl : kd 0 = 8) hin_X8_hill_X8 (List.mem_of_getElem? (i := 1) rfl) ?_
  refine x_aload_n hG dX8_hill_4 rfl rfl ?_
  refine x_get_8_6 hG dX8_hill_5 (rfl : kd 0 = 8) hin_X8_hill_X8 (List.mem_of_getElem? (i := 2) rfl) ?_
  refine x_cVI1 hG dX8_hill_8 (fun ha => c_X5_read ha h) gX8_hill_X5_read rfl ⟨rfl, rfl⟩ hy_X5_read ⟨Nat.le_of_ble_eq_true rfl, Nat.le_of_ble_eq_true rfl⟩ (kd_lt (rfl : kd 1 = 5) (by decide)) (fun _ => xc_5 (rfl : kd 1 = 5)) rfl (Nat.le_of_ble_eq_true rfl) (fun z1 M2 h => ?_)
  refine x_istore_n hG dX8_hill_11 rfl (Nat.le_of_ble_eq_true rfl) rfl ?_
  refine x_iload_n hG dX8_hill_12 rfl rfl ?_
  refine x_if_ge (tgt := 18) hG dX8_hill_13 (by decide) (fun hc3 => ?_) (fun hc3 => ?_)
  · have h := h.1 hc3
    refine x_aload_n hG dX8_hill_18 rfl rfl ?_
    refine x_get_8_6 hG dX8_hill_19 (rfl : kd 0 = 8) hin_X8_hill_X8 (List.mem_of_getElem? (i := 2) rfl) ?_
    have hk4 : kd ((M2.1 0 6).toNatClampNeg) = 2 := And.left h
    refine x_cVV0 hG dX8_hill_22 (fun ha => c_X2_settle ha h) gX8_hill_X2_settle rfl ⟨rfl, rfl⟩ hy_X2_settle ⟨Nat.le_of_ble_eq_true rfl, Nat.le_of_ble_eq_true rfl⟩ (kd_lt hk4 (by decide)) (fun _ => xc_2 hk4) rfl (Nat.le_of_ble_eq_true rfl) (fun M6 h => ?_)
    refine x_aload_n hG dX8_hill_25 rfl rfl ?_
    refine x_get_8_5 hG dX8_hill_26 (rfl : kd 0 = 8) hin_X8_hill_X8 (List.mem_of_getElem? (i := 3) rfl) ?_
    refine x_astore_n hG dX8_hill_29 rfl (Nat.le_of_ble_eq_true rfl) rfl ?_
    refine x_aload_n hG dX8_hill_30 rfl rfl ?_
    refine x_aload_n hG dX8_hill_31 rfl rfl ?_
    refine x_get_8_6 hG dX8_hill_32 (rfl : kd 0 = 8) hin_X8_hill_X8 (List.mem_of_getElem? (i := 2) rfl) ?_
    obtain ⟨hk7, h⟩ := h
    have h := h _ rfl
    refine x_put_8_5 hG dX8_hill_35 (rfl : kd 0 = 8) (kd_lt hk7 (by decide)) hin_X8_hill_X8 (List.mem_of_getElem? (i := 3) rfl) ?_
    refine x_aload_n hG dX8_hill_38 rfl rfl ?_
    refine x_aload_n hG dX8_hill_39 rfl rfl ?_
    obtain ⟨hk9, h⟩ := h
    have h := h _ rfl
    refine x_put_8_6 hG dX8_hill_40 (rfl : kd 0 = 8) (kd_lt hk9 (by decide)) hin_X8_hill_X8 (List.mem_of_getElem? (i := 2) rfl) ?_
    refine x_aload_n hG dX8_hill_43 rfl rfl ?_
    refine x_get_8_0 hG dX8_hill_44 (rfl : kd 0 = 8) hin_X8_hill_X8 (List.mem_of_getElem? (i := 1) rfl) ?_
    refine x_get_5_0 hG dX8_hill_47 (kf_8_0 (rfl : kd 0 = 8)).1 hin_X8_hill_X5 (List.mem_of_getElem? (i := 4) rfl) ?_
    refine x_cVI0 hG dX8_hill_50 (fun ha => c_X7_empty ha h) gX8_hill_X7_empty rfl ⟨rfl, rfl⟩ hy_X7_empty ⟨Nat.le_of_ble_eq_true rfl, Nat.le_of_ble_eq_true rfl⟩ (kd_lt (rfl : kd 2 = 7) (by decide)) (fun _ => xc_7 (rfl : kd 2 = 7)) rfl (Nat.le_of_ble_eq_true rfl) (fun z11 M12 h => ?_)
    refine x_pop hG dX8_hill_53 rfl ?_
    refine x_aload_n hG dX8_hill_54 rfl rfl ?_
    refine x_get_8_3 hG dX8_hill_55 (rfl : kd 0 = 8) hin_X8_hill_X8 (List.mem_of_getElem? (i := 5) rfl) ?_
    refine x_cVI0 hG dX8_hill_58 (fun ha => c_X1_empty ha h) gX8_hill_X1_empty rfl ⟨rfl, rfl⟩ hy_X1_empty ⟨Nat.le_of_ble_eq_true rfl, Nat.le_of_ble_eq_true rfl⟩ (kd_lt (kf_8_3 (rfl : kd 0 = 8)).1 (by decide)) (fun _ => xc_1 (kf_8_3 (rfl : kd 0 = 8)).1) rfl (Nat.le_of_ble_eq_true rfl) (fun z13 M14 h => ?_)
    refine x_pop hG dX8_hill_61 rfl ?_
    refine x_iconst (v := (0 : Int32)) hG dX8_hill_62 (by decide) ?_
    refine x_istore_n hG dX8_hill_63 rfl (Nat.le_of_ble_eq_true rfl) rfl ?_
    refine x_keep [true, true, false, true] rfl ?_
    exact k_X8_hill_64 hG hQ _ _ _ h
  · have h := h.2 hc3
    refine x_iload_n hG dX8_hill_16 rfl rfl ?_
    exact x_iret hG hQ dX8_hill_17 rfl h
abbrev rm_X8_isBit : Room := { frames := 0, cells := 0, slots := 0, locals := 0 }
theorem hy_X8_isBit : yX8_isBit.cls ≠ "java/lang/invoke/MethodHandle" ∧ yX8_isBit.cls ≠ "java/lang/invoke/VarHandle" ∧ (parseMethodDescriptor yX8_isBit.desc).map (fun d => d.parameters.length) = some 1 := by decide +kernel
set_option maxRecDepth 100000 in
set_option maxHeartbeats 4000000 in
theorem k_X8_isBit_9 {G : xG} {post : Int32 → xMem → Prop} (hG : xOk G cX8_isBit RX8 wsX8_isBit rm_X8_isBit) (hQ : xRetI G post .boolean) : ∀ (M : xMem), b_X8_isBit_9 post M → xW G M [none] [] 9 := by
  intro M h
  unfold b_X8_isBit_9 at h
  refine x_iconst (v := (1 : Int32)) hG dX8_isBit_9 (by decide) ?_
  refine x_goto (tgt := 14) hG dX8_isBit_10 (by decide) ?_
  exact x_iret hG hQ dX8_isBit_14 rfl h
set_option maxRecDepth 100000 in
set_option maxHeartbeats 4000000 in
theorem c_X8_isBit {l : Launch} {a : Nat → Nat} {M : xMem} {p0 : Int32} {post : Int32 → xMem → Prop} (ha : xInj a) (h : w_X8_isBit M p0 post) : ∀ D cs sz, xMetI l yX8_isBit wsX8_isBit rm_X8_isBit D a cs sz M [.int p0] post := by
  intro D cs sz
  unfold w_X8_isBit at h
  refine x_metI (ty := .boolean) [some (.int p0)] (by decide) rfl rfl (Nat.le_of_ble_eq_true rfl) rfl rfl ha D cs sz rfl (fun G e1 e2 hG hQ => ?_)
  subst e1
  subst e2
  refine x_iload_n hG dX8_isBit_0 rfl rfl ?_
  refine x_if_eq (tgt := 9) hG dX8_isBit_1 (by decide) (fun hc1 => ?_) (fun hc1 => ?_)
  · have h := h.1 hc1
    refine x_keep [false] rfl ?_
    exact k_X8_isBit_9 hG hQ _ h
  · have h := h.2 hc1
    refine x_iload_n hG dX8_isBit_4 rfl rfl ?_
    refine x_iconst (v := (1 : Int32)) hG dX8_isBit_5 (by decide) ?_
    refine x_icmp_ne (tgt := 13) hG dX8_isBit_6 (by decide) (fun hc2 => ?_) (fun hc2 => ?_)
    · have h := h.1 hc2
      refine x_iconst (v := (0 : Int32)) hG dX8_isBit_13 (by decide) ?_
      exact x_iret hG hQ dX8_isBit_14 rfl h
    · have h := h.2 hc2
      refine x_keep [false] rfl ?_
      exact k_X8_isBit_9 hG hQ _ h
abbrev rm_X8_between : Room := { frames := 3, cells := 0, slots := 0, locals := 67 }
theorem hy_X8_between : yX8_between.cls = RX8 ∧ yX8_between.cls ≠ "java/lang/invoke/MethodHandle" ∧ yX8_between.cls ≠ "java/lang/invoke/VarHandle" ∧ (parseMethodDescriptor yX8_between.desc).map (fun d => d.parameters.length) = some 3 := by decide +kernel
theorem hin_X8_between_X2 : ∀ w ∈ wsX20, w ∈ wsX8_between := fun _ h => List.mem_cons_of_mem _ (List.mem_append_left _ (List.mem_append_right _ h))
theorem hin_X8_between_X8 : ∀ w ∈ wsX80, w ∈ wsX8_between := fun _ h => List.mem_cons_of_mem _ (List.mem_append_left _ (List.mem_append_left _ (List.mem_append_right _ h)))
set_option maxRecDepth 100000 in
set_option maxHeartbeats 4000000 in
theorem c_X8_between {l : Launch} {a : Nat → Nat} {M : xMem} {p1 : Int32} {p2 : Int32} {p3 : Int32} {post : Int32 → xMem → Prop} (ha : xInj a) (h : w_X8_between M p1 p2 p3 post) : ∀ D cs sz, xMetI l yX8_between wsX8_between rm_X8_between D a cs sz M [.ref (a 0), .int p1, .int p2, .int p3] post := by
  intro D cs sz
  unfold w_X8_between at h
  refine x_metI (ty := .int) [some (.ref (a 0)), some (.int p1), some (.int p2), some (.int p3), none] (by decide) rfl rfl (Nat.le_of_ble_eq_true rfl) rfl rfl ha D cs sz rfl (fun G e1 e2 hG hQ => ?_)
  subst e1
  subst e2
  refine x_aload_n hG dX8_between_0 rfl rfl ?_
  refine x_get_8_5 hG dX8_between_1 (rfl : kd 0 = 8) hin_X8_between_X8 (List.mem_of_getElem? (i := 1) rfl) ?_
  refine x_iload_n hG dX8_between_4 rfl rfl ?_
  refine x_iload_n hG dX8_between_5 rfl rfl ?_
  have hk1 : kd ((M.1 0 5).toNatClampNeg) = 2 := And.left h
  refine x_cVI2 hG dX8_between_6 (fun ha => c_X2_borderOf ha h) gX8_between_X2_borderOf rfl ⟨rfl, rfl⟩ hy_X2_borderOf ⟨Nat.le_of_ble_eq_true rfl, Nat.le_of_ble_eq_true rfl⟩ (kd_lt hk1 (by decide)) (fun _ => xc_2 hk1) rfl (Nat.le_of_ble_eq_true rfl) (fun z2 M3 h => ?_)
  refine x_istore hG dX8_between_9 (Nat.le_of_ble_eq_true rfl) rfl ?_
  refine x_iload hG dX8_between_11 rfl ?_
  refine x_if_lt (tgt := 23) hG dX8_between_13 (by decide) (fun hc4 => ?_) (fun hc4 => ?_)
  · have h := h.1 hc4
    refine x_iconst (v := (-1 : Int32)) hG dX8_between_23 (by decide) ?_
    exact x_iret hG hQ dX8_between_24 rfl h
  · have h := h.2 hc4
    refine x_iload_n hG dX8_between_16 rfl rfl ?_
    refine x_cSI1 hG dX8_between_17 (fun ha => c_X8_isBit ha h) gX8_between_X8_isBit rfl ⟨rfl, rfl⟩ hy_X8_isBit ⟨Nat.le_of_ble_eq_true rfl, Nat.le_of_ble_eq_true rfl⟩ (Nat.le_of_ble_eq_true rfl) (fun z5 M6 h => ?_)
    refine x_if_ne (tgt := 25) hG dX8_between_20 (by decide) (fun hc7 => ?_) (fun hc7 => ?_)
    · have h := h.1 hc7
      refine x_aload_n hG dX8_between_25 rfl rfl ?_
      refine x_get_8_5 hG dX8_between_26 (rfl : kd 0 = 8) hin_X8_between_X8 (List.mem_of_getElem? (i := 1) rfl) ?_
      obtain ⟨hk8, h⟩ := h
      refine x_get_2_4 hG dX8_between_29 hk8 hin_X8_between_X2 (List.mem_of_getElem? (i := 2) rfl) ?_
      refine x_iload_n hG dX8_between_32 rfl rfl ?_
      refine x_cVR1 hG dX8_between_33 (fun ha => c_X0_rowOf ha h) gX8_between_X0_rowOf rfl ⟨rfl, rfl⟩ hy_X0_rowOf ⟨Nat.le_of_ble_eq_true rfl, Nat.le_of_ble_eq_true rfl⟩ (kd_lt (kf_2_4 hk8).1 (by decide)) (fun _ => xc_0 (kf_2_4 hk8).1) rfl (Nat.le_of_ble_eq_true rfl) (fun z9 M10 h => ?_)
      refine x_iload hG dX8_between_36 rfl ?_
      obtain ⟨hk11, h⟩ := h
      obtain ⟨hi12, h⟩ := h
      refine x_iaload hG dX8_between_38 hk11 hi12 ?_
      exact x_iret hG hQ dX8_between_39 rfl h
    · have h := h.2 hc7
      refine x_iconst (v := (-1 : Int32)) hG dX8_between_23 (by decide) ?_
      exact x_iret hG hQ dX8_between_24 rfl h
abbrev rm_X8_build : Room := { frames := 6, cells := 0, slots := 0, locals := 140 }
theorem hy_X8_build : yX8_build.cls = RX8 ∧ yX8_build.cls ≠ "java/lang/invoke/MethodHandle" ∧ yX8_build.cls ≠ "java/lang/invoke/VarHandle" ∧ (parseMethodDescriptor yX8_build.desc).map (fun d => d.parameters.length) = some 4 := by decide +kernel
theorem hin_X8_build_X2 : ∀ w ∈ wsX20, w ∈ wsX8_build := fun _ h => List.mem_cons_of_mem _ (List.mem_append_left _ (List.mem_append_left _ (List.mem_append_left _ (List.mem_append_right _ h))))
theorem hin_X8_build_X8 : ∀ w ∈ wsX80, w ∈ wsX8_build := fun _ h => List.mem_cons_of_mem _ (List.mem_append_left _ (List.mem_append_left _ (List.mem_append_left _ (List.mem_append_left _ (List.mem_append_right _ h)))))
set_option maxRecDepth 100000 in
set_option maxHeartbeats 4000000 in
theorem c_X8_build {l : Launch} {a : Nat → Nat} {M : xMem} {p1 : Int32} {p2 : Int32} {p3 : Int32} {p4 : Int32} {post : Int32 → xMem → Prop} (ha : xInj a) (h : w_X8_build M p1 p2 p3 p4 post) : ∀ D cs sz, xMetI l yX8_build wsX8_build rm_X8_build D a cs sz M [.ref (a 0), .int p1, .int p2, .int p3, .int p4] post := by
  intro D cs sz
  unfold w_X8_build at h
  refine x_metI (ty := .int) [some (.ref (a 0)), some (.int p1), some (.int p2), some (.int p3), some (.int p4), none, none, none] (by decide) rfl rfl (Nat.le_of_ble_eq_true rfl) rfl rfl ha D cs sz rfl (fun G e1 e2 hG hQ => ?_)
  subst e1
  subst e2
  refine x_aload_n hG dX8_build_0 rfl rfl ?_
  refine x_get_8_5 hG dX8_build_1 (rfl : kd 0 = 8) hin_X8_build_X8 (List.mem_of_getElem? (i := 1) rfl) ?_
  refine x_iload_n hG dX8_build_4 rfl rfl ?_
  refine x_iload_n hG dX8_build_5 rfl rfl ?_
  have hk1 : kd ((M.1 0 5).toNatClampNeg) = 2 := And.left h
  refine x_cVI2 hG dX8_build_6 (fun ha => c_X2_borderOf ha h) gX8_build_X2_borderOf rfl ⟨rfl, rfl⟩ hy_X2_borderOf ⟨Nat.le_of_ble_eq_true rfl, Nat.le_of_ble_eq_true rfl⟩ (kd_lt hk1 (by decide)) (fun _ => xc_2 hk1) rfl (Nat.le_of_ble_eq_true rfl) (fun z2 M3 h => ?_)
  refine x_istore hG dX8_build_9 (Nat.le_of_ble_eq_true rfl) rfl ?_
  refine x_iload hG dX8_build_11 rfl ?_
  refine x_if_lt (tgt := 36) hG dX8_build_13 (by decide) (fun hc4 => ?_) (fun hc4 => ?_)
  · have h := h.1 hc4
    refine x_iconst (v := (-1 : Int32)) hG dX8_build_36 (by decide) ?_
    exact x_iret hG hQ dX8_build_37 rfl h
  · have h := h.2 hc4
    refine x_iload_n hG dX8_build_16 rfl rfl ?_
    refine x_cSI1 hG dX8_build_17 (fun ha => c_X8_isBit ha h) gX8_build_X8_isBit rfl ⟨rfl, rfl⟩ hy_X8_isBit ⟨Nat.le_of_ble_eq_true rfl, Nat.le_of_ble_eq_true rfl⟩ (Nat.le_of_ble_eq_true rfl) (fun z5 M6 h => ?_)
    refine x_if_eq (tgt := 36) hG dX8_build_20 (by decide) (fun hc7 => ?_) (fun hc7 => ?_)
    · have h := h.1 hc7
      refine x_iconst (v := (-1 : Int32)) hG dX8_build_36 (by decide) ?_
      exact x_iret hG hQ dX8_build_37 rfl h
    · have h := h.2 hc7
      refine x_iload hG dX8_build_23 rfl ?_
      refine x_iconst (v := (0 : Int32)) hG dX8_build_25 (by decide) ?_
      refine x_iload_n hG dX8_build_26 rfl rfl ?_
      refine x_cSI1 hG dX8_build_27 (fun ha => c_X8_mostOf ha h) gX8_build_X8_mostOf rfl ⟨rfl, rfl⟩ hy_X8_mostOf ⟨Nat.le_of_ble_eq_true rfl, Nat.le_of_ble_eq_true rfl⟩ (Nat.le_of_ble_eq_true rfl) (fun z8 M9 h => ?_)
      refine x_cSI3 hG dX8_build_30 (fun ha => c_X8_within ha h) gX8_build_X8_within rfl ⟨rfl, rfl⟩ hy_X8_within ⟨Nat.le_of_ble_eq_true rfl, Nat.le_of_ble_eq_true rfl⟩ (Nat.le_of_ble_eq_true rfl) (fun z10 M11 h => ?_)
      refine x_if_ne (tgt := 38) hG dX8_build_33 (by decide) (fun hc12 => ?_) (fun hc12 => ?_)
      · have h := h.1 hc12
        refine x_aload_n hG dX8_build_38 rfl rfl ?_
        refine x_get_8_5 hG dX8_build_39 (rfl : kd 0 = 8) hin_X8_build_X8 (List.mem_of_getElem? (i := 1) rfl) ?_
        obtain ⟨hk13, h⟩ := h
        refine x_get_2_4 hG dX8_build_42 hk13 hin_X8_build_X2 (List.mem_of_getElem? (i := 2) rfl) ?_
        refine x_iload_n hG dX8_build_45 rfl rfl ?_
        refine x_cVR1 hG dX8_build_46 (fun ha => c_X0_rowOf ha h) gX8_build_X0_rowOf rfl ⟨rfl, rfl⟩ hy_X0_rowOf ⟨Nat.le_of_ble_eq_true rfl, Nat.le_of_ble_eq_true rfl⟩ (kd_lt (kf_2_4 hk13).1 (by decide)) (fun _ => xc_0 (kf_2_4 hk13).1) rfl (Nat.le_of_ble_eq_true rfl) (fun z14 M15 h => ?_)
        refine x_astore hG dX8_build_49 (Nat.le_of_ble_eq_true rfl) rfl ?_
        refine x_aload hG dX8_build_51 rfl ?_
        refine x_iload hG dX8_build_53 rfl ?_
        obtain ⟨hk16, h⟩ := h
        obtain ⟨hi17, h⟩ := h
        refine x_iaload hG dX8_build_55 hk16 hi17 ?_
        refine x_istore hG dX8_build_56 (Nat.le_of_ble_eq_true rfl) rfl ?_
        refine x_aload hG dX8_build_58 rfl ?_
        refine x_iload hG dX8_build_60 rfl ?_
        refine x_iload hG dX8_build_62 rfl ?_
        have h := h _ rfl
        refine x_iastore hG dX8_build_64 hk16 hi17 ?_
        refine x_aload_n hG dX8_build_65 rfl rfl ?_
        refine x_cVV0 hG dX8_build_66 (fun ha => c_X8_listen ha h) gX8_build_X8_listen rfl ⟨rfl, rfl⟩ hy_X8_listen ⟨Nat.le_of_ble_eq_true rfl, Nat.le_of_ble_eq_true rfl⟩ (kd_lt (rfl : kd 0 = 8) (by decide)) (fun _ => xc_8 (rfl : kd 0 = 8)) rfl (Nat.le_of_ble_eq_true rfl) (fun M20 h => ?_)
        refine x_iload hG dX8_build_69 rfl ?_
        exact x_iret hG hQ dX8_build_71 rfl h
      · have h := h.2 hc12
        refine x_iconst (v := (-1 : Int32)) hG dX8_build_36 (by decide) ?_
        exact x_iret hG hQ dX8_build_37 rfl h
abbrev rm_X8_wind : Room := { frames := 6, cells := 0, slots := 0, locals := 140 }
theorem hy_X8_wind : yX8_wind.cls = RX8 ∧ yX8_wind.cls ≠ "java/lang/invoke/MethodHandle" ∧ yX8_wind.cls ≠ "java/lang/invoke/VarHandle" ∧ (parseMethodDescriptor yX8_wind.desc).map (fun d => d.parameters.length) = some 2 := by decide +kernel
theorem hin_X8_wind_X0 : ∀ w ∈ wsX00, w ∈ wsX8_wind := fun _ h => List.mem_cons_of_mem _ (List.mem_append_left _ (List.mem_append_left _ (List.mem_append_right _ h)))
theorem hin_X8_wind_X2 : ∀ w ∈ wsX20, w ∈ wsX8_wind := fun _ h => List.mem_cons_of_mem _ (List.mem_append_left _ (List.mem_append_left _ (List.mem_append_left _ (List.mem_append_right _ h))))
theorem hin_X8_wind_X8 : ∀ w ∈ wsX80, w ∈ wsX8_wind := fun _ h => List.mem_cons_of_mem _ (List.mem_append_left _ (List.mem_append_left _ (List.mem_append_left _ (List.mem_append_left _ (List.mem_append_right _ h)))))
set_option maxRecDepth 100000 in
set_option maxHeartbeats 4000000 in
theorem c_X8_wind {l : Launch} {a : Nat → Nat} {M : xMem} {p1 : Int32} {p2 : Int32} {post : Int32 → xMem → Prop} (ha : xInj a) (h : w_X8_wind M p1 p2 post) : ∀ D cs sz, xMetI l yX8_wind wsX8_wind rm_X8_wind D a cs sz M [.ref (a 0), .int p1, .int p2] post := by
  intro D cs sz
  unfold w_X8_wind at h
  refine x_metI (ty := .int) [some (.ref (a 0)), some (.int p1), some (.int p2)] (by decide) rfl rfl (Nat.le_of_ble_eq_true rfl) rfl rfl ha D cs sz rfl (fun G e1 e2 hG hQ => ?_)
  subst e1
  subst e2
  refine x_iload_n hG dX8_wind_0 rfl rfl ?_
  refine x_bipush (v := (-2 : Int32)) hG dX8_wind_1 (by decide) ?_
  refine x_iconst (v := (2 : Int32)) hG dX8_wind_3 (by decide) ?_
  refine x_cSI3 hG dX8_wind_4 (fun ha => c_X8_within ha h) gX8_wind_X8_within rfl ⟨rfl, rfl⟩ hy_X8_within ⟨Nat.le_of_ble_eq_true rfl, Nat.le_of_ble_eq_true rfl⟩ (Nat.le_of_ble_eq_true rfl) (fun z1 M2 h => ?_)
  refine x_if_eq (tgt := 20) hG dX8_wind_7 (by decide) (fun hc3 => ?_) (fun hc3 => ?_)
  · have h := h.1 hc3
    refine x_iconst (v := (-1 : Int32)) hG dX8_wind_20 (by decide) ?_
    exact x_iret hG hQ dX8_wind_21 rfl h
  · have h := h.2 hc3
    refine x_iload_n hG dX8_wind_10 rfl rfl ?_
    refine x_bipush (v := (-2 : Int32)) hG dX8_wind_11 (by decide) ?_
    refine x_iconst (v := (2 : Int32)) hG dX8_wind_13 (by decide) ?_
    refine x_cSI3 hG dX8_wind_14 (fun ha => c_X8_within ha h) gX8_wind_X8_within rfl ⟨rfl, rfl⟩ hy_X8_within ⟨Nat.le_of_ble_eq_true rfl, Nat.le_of_ble_eq_true rfl⟩ (Nat.le_of_ble_eq_true rfl) (fun z4 M5 h => ?_)
    refine x_if_ne (tgt := 22) hG dX8_wind_17 (by decide) (fun hc6 => ?_) (fun hc6 => ?_)
    · have h := h.1 hc6
      refine x_aload_n hG dX8_wind_22 rfl rfl ?_
      refine x_get_8_5 hG dX8_wind_23 (rfl : kd 0 = 8) hin_X8_wind_X8 (List.mem_of_getElem? (i := 1) rfl) ?_
      obtain ⟨hk7, h⟩ := h
      refine x_get_2_4 hG dX8_wind_26 hk7 hin_X8_wind_X2 (List.mem_of_getElem? (i := 2) rfl) ?_
      refine x_iload_n hG dX8_wind_29 rfl rfl ?_
      have h := h _ rfl
      refine x_put_0_2 hG dX8_wind_30 (kf_2_4 hk7).1 hin_X8_wind_X0 (List.mem_of_getElem? (i := 3) rfl) ?_
      refine x_aload_n hG dX8_wind_33 rfl rfl ?_
      refine x_get_8_5 hG dX8_wind_34 (rfl : kd 0 = 8) hin_X8_wind_X8 (List.mem_of_getElem? (i := 1) rfl) ?_
      obtain ⟨hk9, h⟩ := h
      refine x_get_2_4 hG dX8_wind_37 hk9 hin_X8_wind_X2 (List.mem_of_getElem? (i := 2) rfl) ?_
      refine x_iload_n hG dX8_wind_40 rfl rfl ?_
      have h := h _ rfl
      refine x_put_0_3 hG dX8_wind_41 (kf_2_4 hk9).1 hin_X8_wind_X0 (List.mem_of_getElem? (i := 4) rfl) ?_
      refine x_aload_n hG dX8_wind_44 rfl rfl ?_
      refine x_cVV0 hG dX8_wind_45 (fun ha => c_X8_listen ha h) gX8_wind_X8_listen rfl ⟨rfl, rfl⟩ hy_X8_listen ⟨Nat.le_of_ble_eq_true rfl, Nat.le_of_ble_eq_true rfl⟩ (kd_lt (rfl : kd 0 = 8) (by decide)) (fun _ => xc_8 (rfl : kd 0 = 8)) rfl (Nat.le_of_ble_eq_true rfl) (fun M12 h => ?_)
      refine x_iconst (v := (1 : Int32)) hG dX8_wind_48 (by decide) ?_
      exact x_iret hG hQ dX8_wind_49 rfl h
    · have h := h.2 hc6
      refine x_iconst (v := (-1 : Int32)) hG dX8_wind_20 (by decide) ?_
      exact x_iret hG hQ dX8_wind_21 rfl h
abbrev rm_X8_fade : Room := { frames := 6, cells := 0, slots := 0, locals := 140 }
theorem hy_X8_fade : yX8_fade.cls = RX8 ∧ yX8_fade.cls ≠ "java/lang/invoke/MethodHandle" ∧ yX8_fade.cls ≠ "java/lang/invoke/VarHandle" ∧ (parseMethodDescriptor yX8_fade.desc).map (fun d => d.parameters.length) = some 1 := by decide +kernel
theorem hin_X8_fade_X6 : ∀ w ∈ wsX60, w ∈ wsX8_fade := fun _ h => List.mem_cons_of_mem _ (List.mem_append_left _ (List.mem_append_left _ (List.mem_append_left _ (List.mem_append_right _ h))))
theorem hin_X8_fade_X8 : ∀ w ∈ wsX80, w ∈ wsX8_fade := fun _ h => List.mem_cons_of_mem _ (List.mem_append_left _ (List.mem_append_left _ (List.mem_append_left _ (List.mem_append_left _ (List.mem_append_right _ h)))))
set_option maxRecDepth 100000 in
set_option maxHeartbeats 4000000 in
theorem c_X8_fade {l : Launch} {a : Nat → Nat} {M : xMem} {p1 : Int32} {post : Int32 → xMem → Prop} (ha : xInj a) (h : w_X8_fade M p1 post) : ∀ D cs sz, xMetI l yX8_fade wsX8_fade rm_X8_fade D a cs sz M [.ref (a 0), .int p1] post := by
  intro D cs sz
  unfold w_X8_fade at h
  refine x_metI (ty := .int) [some (.ref (a 0)), some (.int p1), none] (by decide) rfl rfl (Nat.le_of_ble_eq_true rfl) rfl rfl ha D cs sz rfl (fun G e1 e2 hG hQ => ?_)
  subst e1
  subst e2
  refine x_iload_n hG dX8_fade_0 rfl rfl ?_
  refine x_iconst (v := (1 : Int32)) hG dX8_fade_1 (by decide) ?_
  refine x_bipush (v := (9 : Int32)) hG dX8_fade_2 (by decide) ?_
  refine x_cSI3 hG dX8_fade_4 (fun ha => c_X8_within ha h) gX8_fade_X8_within rfl ⟨rfl, rfl⟩ hy_X8_within ⟨Nat.le_of_ble_eq_true rfl, Nat.le_of_ble_eq_true rfl⟩ (Nat.le_of_ble_eq_true rfl) (fun z1 M2 h => ?_)
  refine x_if_ne (tgt := 12) hG dX8_fade_7 (by decide) (fun hc3 => ?_) (fun hc3 => ?_)
  · have h := h.1 hc3
    refine x_aload_n hG dX8_fade_12 rfl rfl ?_
    refine x_get_8_1 hG dX8_fade_13 (rfl : kd 0 = 8) hin_X8_fade_X8 (List.mem_of_getElem? (i := 1) rfl) ?_
    refine x_get_6_2 hG dX8_fade_16 (kf_8_1 (rfl : kd 0 = 8)).1 hin_X8_fade_X6 (List.mem_of_getElem? (i := 2) rfl) ?_
    refine x_istore_n hG dX8_fade_19 rfl (Nat.le_of_ble_eq_true rfl) rfl ?_
    refine x_aload_n hG dX8_fade_20 rfl rfl ?_
    refine x_get_8_1 hG dX8_fade_21 (rfl : kd 0 = 8) hin_X8_fade_X8 (List.mem_of_getElem? (i := 1) rfl) ?_
    refine x_iload_n hG dX8_fade_24 rfl rfl ?_
    have h := h _ rfl
    refine x_put_6_2 hG dX8_fade_25 (kf_8_1 (rfl : kd 0 = 8)).1 hin_X8_fade_X6 (List.mem_of_getElem? (i := 2) rfl) ?_
    refine x_aload_n hG dX8_fade_28 rfl rfl ?_
    refine x_cVV0 hG dX8_fade_29 (fun ha => c_X8_listen ha h) gX8_fade_X8_listen rfl ⟨rfl, rfl⟩ hy_X8_listen ⟨Nat.le_of_ble_eq_true rfl, Nat.le_of_ble_eq_true rfl⟩ (kd_lt (rfl : kd 0 = 8) (by decide)) (fun _ => xc_8 (rfl : kd 0 = 8)) rfl (Nat.le_of_ble_eq_true rfl) (fun M6 h => ?_)
    refine x_iload_n hG dX8_fade_32 rfl rfl ?_
    exact x_iret hG hQ dX8_fade_33 rfl h
  · have h := h.2 hc3
    refine x_iconst (v := (-1 : Int32)) hG dX8_fade_10 (by decide) ?_
    exact x_iret hG hQ dX8_fade_11 rfl h
abbrev rm_X8_worker : Room := { frames := 1, cells := 0, slots := 0, locals := 22 }
theorem hy_X8_worker : yX8_worker.cls = RX8 ∧ yX8_worker.cls ≠ "java/lang/invoke/MethodHandle" ∧ yX8_worker.cls ≠ "java/lang/invoke/VarHandle" ∧ (parseMethodDescriptor yX8_worker.desc).map (fun d => d.parameters.length) = some 2 := by decide +kernel
theorem hin_X8_worker_X2 : ∀ w ∈ wsX20, w ∈ wsX8_worker := fun _ h => List.mem_cons_of_mem _ (List.mem_append_right _ h)
theorem hin_X8_worker_X8 : ∀ w ∈ wsX80, w ∈ wsX8_worker := fun _ h => List.mem_cons_of_mem _ (List.mem_append_left _ (List.mem_append_right _ h))
set_option maxRecDepth 100000 in
set_option maxHeartbeats 4000000 in
theorem c_X8_worker {l : Launch} {a : Nat → Nat} {M : xMem} {p1 : Int32} {p2 : Int32} {post : Int32 → xMem → Prop} (ha : xInj a) (h : w_X8_worker M p1 p2 post) : ∀ D cs sz, xMetI l yX8_worker wsX8_worker rm_X8_worker D a cs sz M [.ref (a 0), .int p1, .int p2] post := by
  intro D cs sz
  unfold w_X8_worker at h
  refine x_metI (ty := .int) [some (.ref (a 0)), some (.int p1), some (.int p2)] (by decide) rfl rfl (Nat.le_of_ble_eq_true rfl) rfl rfl ha D cs sz rfl (fun G e1 e2 hG hQ => ?_)
  subst e1
  subst e2
  refine x_aload_n hG dX8_worker_0 rfl rfl ?_
  refine x_get_8_5 hG dX8_worker_1 (rfl : kd 0 = 8) hin_X8_worker_X8 (List.mem_of_getElem? (i := 1) rfl) ?_
  refine x_iload_n hG dX8_worker_4 rfl rfl ?_
  have hk1 : kd ((M.1 0 5).toNatClampNeg) = 2 := And.left h
  refine x_cVI1 hG dX8_worker_5 (fun ha => c_X2_isWorker ha h) gX8_worker_X2_isWorker rfl ⟨rfl, rfl⟩ hy_X2_isWorker ⟨Nat.le_of_ble_eq_true rfl, Nat.le_of_ble_eq_true rfl⟩ (kd_lt hk1 (by decide)) (fun _ => xc_2 hk1) rfl (Nat.le_of_ble_eq_true rfl) (fun z2 M3 h => ?_)
  refine x_if_eq (tgt := 20) hG dX8_worker_8 (by decide) (fun hc4 => ?_) (fun hc4 => ?_)
  · have h := h.1 hc4
    refine x_iconst (v := (-1 : Int32)) hG dX8_worker_20 (by decide) ?_
    exact x_iret hG hQ dX8_worker_21 rfl h
  · have h := h.2 hc4
    refine x_iload_n hG dX8_worker_11 rfl rfl ?_
    refine x_iconst (v := (0 : Int32)) hG dX8_worker_12 (by decide) ?_
    refine x_iconst (v := (3 : Int32)) hG dX8_worker_13 (by decide) ?_
    refine x_cSI3 hG dX8_worker_14 (fun ha => c_X8_within ha h) gX8_worker_X8_within rfl ⟨rfl, rfl⟩ hy_X8_within ⟨Nat.le_of_ble_eq_true rfl, Nat.le_of_ble_eq_true rfl⟩ (Nat.le_of_ble_eq_true rfl) (fun z5 M6 h => ?_)
    refine x_if_ne (tgt := 22) hG dX8_worker_17 (by decide) (fun hc7 => ?_) (fun hc7 => ?_)
    · have h := h.1 hc7
      refine x_aload_n hG dX8_worker_22 rfl rfl ?_
      refine x_get_8_5 hG dX8_worker_23 (rfl : kd 0 = 8) hin_X8_worker_X8 (List.mem_of_getElem? (i := 1) rfl) ?_
      obtain ⟨hk8, h⟩ := h
      refine x_get_2_5 hG dX8_worker_26 hk8 hin_X8_worker_X2 (List.mem_of_getElem? (i := 2) rfl) ?_
      refine x_iload_n hG dX8_worker_29 rfl rfl ?_
      obtain ⟨hi9, h⟩ := h
      refine x_aaload11 hG dX8_worker_30 (kf_2_5 hk8).1 (x_inE (kf_2_5 hk8).2 hi9) ?_
      refine x_iload_n hG dX8_worker_31 rfl rfl ?_
      obtain ⟨hi10, h⟩ := h
      refine x_iaload hG dX8_worker_32 (ke_2_5 hk8 (vp_lt hi9)).1 (x_inE (ke_2_5 hk8 (vp_lt hi9)).2 hi10) ?_
      exact x_iret hG hQ dX8_worker_33 rfl h
    · have h := h.2 hc7
      refine x_iconst (v := (-1 : Int32)) hG dX8_worker_20 (by decide) ?_
      exact x_iret hG hQ dX8_worker_21 rfl h
abbrev rm_X8_deed : Room := { frames := 1, cells := 0, slots := 0, locals := 22 }
theorem hy_X8_deed : yX8_deed.cls = RX8 ∧ yX8_deed.cls ≠ "java/lang/invoke/MethodHandle" ∧ yX8_deed.cls ≠ "java/lang/invoke/VarHandle" ∧ (parseMethodDescriptor yX8_deed.desc).map (fun d => d.parameters.length) = some 2 := by decide +kernel
theorem hin_X8_deed_X2 : ∀ w ∈ wsX20, w ∈ wsX8_deed := fun _ h => List.mem_cons_of_mem _ (List.mem_append_right _ h)
theorem hin_X8_deed_X8 : ∀ w ∈ wsX80, w ∈ wsX8_deed := fun _ h => List.mem_cons_of_mem _ (List.mem_append_left _ (List.mem_append_right _ h))
set_option maxRecDepth 100000 in
set_option maxHeartbeats 4000000 in
theorem c_X8_deed {l : Launch} {a : Nat → Nat} {M : xMem} {p1 : Int32} {p2 : Int32} {post : Int32 → xMem → Prop} (ha : xInj a) (h : w_X8_deed M p1 p2 post) : ∀ D cs sz, xMetI l yX8_deed wsX8_deed rm_X8_deed D a cs sz M [.ref (a 0), .int p1, .int p2] post := by
  intro D cs sz
  unfold w_X8_deed at h
  refine x_metI (ty := .int) [some (.ref (a 0)), some (.int p1), some (.int p2)] (by decide) rfl rfl (Nat.le_of_ble_eq_true rfl) rfl rfl ha D cs sz rfl (fun G e1 e2 hG hQ => ?_)
  subst e1
  subst e2
  refine x_aload_n hG dX8_deed_0 rfl rfl ?_
  refine x_get_8_5 hG dX8_deed_1 (rfl : kd 0 = 8) hin_X8_deed_X8 (List.mem_of_getElem? (i := 1) rfl) ?_
  refine x_iload_n hG dX8_deed_4 rfl rfl ?_
  have hk1 : kd ((M.1 0 5).toNatClampNeg) = 2 := And.left h
  refine x_cVI1 hG dX8_deed_5 (fun ha => c_X2_isDeed ha h) gX8_deed_X2_isDeed rfl ⟨rfl, rfl⟩ hy_X2_isDeed ⟨Nat.le_of_ble_eq_true rfl, Nat.le_of_ble_eq_true rfl⟩ (kd_lt hk1 (by decide)) (fun _ => xc_2 hk1) rfl (Nat.le_of_ble_eq_true rfl) (fun z2 M3 h => ?_)
  refine x_if_eq (tgt := 20) hG dX8_deed_8 (by decide) (fun hc4 => ?_) (fun hc4 => ?_)
  · have h := h.1 hc4
    refine x_iconst (v := (-1 : Int32)) hG dX8_deed_20 (by decide) ?_
    exact x_iret hG hQ dX8_deed_21 rfl h
  · have h := h.2 hc4
    refine x_iload_n hG dX8_deed_11 rfl rfl ?_
    refine x_iconst (v := (0 : Int32)) hG dX8_deed_12 (by decide) ?_
    refine x_iconst (v := (5 : Int32)) hG dX8_deed_13 (by decide) ?_
    refine x_cSI3 hG dX8_deed_14 (fun ha => c_X8_within ha h) gX8_deed_X8_within rfl ⟨rfl, rfl⟩ hy_X8_within ⟨Nat.le_of_ble_eq_true rfl, Nat.le_of_ble_eq_true rfl⟩ (Nat.le_of_ble_eq_true rfl) (fun z5 M6 h => ?_)
    refine x_if_ne (tgt := 22) hG dX8_deed_17 (by decide) (fun hc7 => ?_) (fun hc7 => ?_)
    · have h := h.1 hc7
      refine x_aload_n hG dX8_deed_22 rfl rfl ?_
      refine x_get_8_5 hG dX8_deed_23 (rfl : kd 0 = 8) hin_X8_deed_X8 (List.mem_of_getElem? (i := 1) rfl) ?_
      obtain ⟨hk8, h⟩ := h
      refine x_get_2_6 hG dX8_deed_26 hk8 hin_X8_deed_X2 (List.mem_of_getElem? (i := 2) rfl) ?_
      refine x_iload_n hG dX8_deed_29 rfl rfl ?_
      obtain ⟨hi9, h⟩ := h
      refine x_aaload11 hG dX8_deed_30 (kf_2_6 hk8).1 (x_inE (kf_2_6 hk8).2 hi9) ?_
      refine x_iload_n hG dX8_deed_31 rfl rfl ?_
      obtain ⟨hi10, h⟩ := h
      refine x_iaload hG dX8_deed_32 (ke_2_6 hk8 (vp_lt hi9)).1 (x_inE (ke_2_6 hk8 (vp_lt hi9)).2 hi10) ?_
      exact x_iret hG hQ dX8_deed_33 rfl h
    · have h := h.2 hc7
      refine x_iconst (v := (-1 : Int32)) hG dX8_deed_20 (by decide) ?_
      exact x_iret hG hQ dX8_deed_21 rfl h
abbrev rm_X8_loud : Room := { frames := 1, cells := 0, slots := 0, locals := 21 }
theorem hy_X8_loud : yX8_loud.cls = RX8 ∧ yX8_loud.cls ≠ "java/lang/invoke/MethodHandle" ∧ yX8_loud.cls ≠ "java/lang/invoke/VarHandle" ∧ (parseMethodDescriptor yX8_loud.desc).map (fun d => d.parameters.length) = some 2 := by decide +kernel
theorem hin_X8_loud_X6 : ∀ w ∈ wsX60, w ∈ wsX8_loud := fun _ h => List.mem_cons_of_mem _ (List.mem_append_left _ (List.mem_append_right _ h))
theorem hin_X8_loud_X8 : ∀ w ∈ wsX80, w ∈ wsX8_loud := fun _ h => List.mem_cons_of_mem _ (List.mem_append_left _ (List.mem_append_left _ (List.mem_append_right _ h)))
set_option maxRecDepth 100000 in
set_option maxHeartbeats 4000000 in
theorem c_X8_loud {l : Launch} {a : Nat → Nat} {M : xMem} {p1 : Int32} {p2 : Int32} {post : Int32 → xMem → Prop} (ha : xInj a) (h : w_X8_loud M p1 p2 post) : ∀ D cs sz, xMetI l yX8_loud wsX8_loud rm_X8_loud D a cs sz M [.ref (a 0), .int p1, .int p2] post := by
  intro D cs sz
  unfold w_X8_loud at h
  refine x_metI (ty := .int) [some (.ref (a 0)), some (.int p1), some (.int p2)] (by decide) rfl rfl (Nat.le_of_ble_eq_true rfl) rfl rfl ha D cs sz rfl (fun G e1 e2 hG hQ => ?_)
  subst e1
  subst e2
  refine x_aload_n hG dX8_loud_0 rfl rfl ?_
  refine x_get_8_5 hG dX8_loud_1 (rfl : kd 0 = 8) hin_X8_loud_X8 (List.mem_of_getElem? (i := 1) rfl) ?_
  refine x_iload_n hG dX8_loud_4 rfl rfl ?_
  have hk1 : kd ((M.1 0 5).toNatClampNeg) = 2 := And.left h
  refine x_cVI1 hG dX8_loud_5 (fun ha => c_X2_isWorker ha h) gX8_loud_X2_isWorker rfl ⟨rfl, rfl⟩ hy_X2_isWorker ⟨Nat.le_of_ble_eq_true rfl, Nat.le_of_ble_eq_true rfl⟩ (kd_lt hk1 (by decide)) (fun _ => xc_2 hk1) rfl (Nat.le_of_ble_eq_true rfl) (fun z2 M3 h => ?_)
  refine x_if_eq (tgt := 22) hG dX8_loud_8 (by decide) (fun hc4 => ?_) (fun hc4 => ?_)
  · have h := h.1 hc4
    refine x_iconst (v := (-1 : Int32)) hG dX8_loud_22 (by decide) ?_
    exact x_iret hG hQ dX8_loud_23 rfl h
  · have h := h.2 hc4
    refine x_aload_n hG dX8_loud_11 rfl rfl ?_
    refine x_get_8_5 hG dX8_loud_12 (rfl : kd 0 = 8) hin_X8_loud_X8 (List.mem_of_getElem? (i := 1) rfl) ?_
    refine x_iload_n hG dX8_loud_15 rfl rfl ?_
    have hk5 : kd ((M3.1 0 5).toNatClampNeg) = 2 := And.left h
    refine x_cVI1 hG dX8_loud_16 (fun ha => c_X2_isYard ha h) gX8_loud_X2_isYard rfl ⟨rfl, rfl⟩ hy_X2_isYard ⟨Nat.le_of_ble_eq_true rfl, Nat.le_of_ble_eq_true rfl⟩ (kd_lt hk5 (by decide)) (fun _ => xc_2 hk5) rfl (Nat.le_of_ble_eq_true rfl) (fun z6 M7 h => ?_)
    refine x_if_ne (tgt := 24) hG dX8_loud_19 (by decide) (fun hc8 => ?_) (fun hc8 => ?_)
    · have h := h.1 hc8
      refine x_aload_n hG dX8_loud_24 rfl rfl ?_
      refine x_get_8_1 hG dX8_loud_25 (rfl : kd 0 = 8) hin_X8_loud_X8 (List.mem_of_getElem? (i := 2) rfl) ?_
      refine x_get_6_0 hG dX8_loud_28 (kf_8_1 (rfl : kd 0 = 8)).1 hin_X8_loud_X6 (List.mem_of_getElem? (i := 3) rfl) ?_
      refine x_iload_n hG dX8_loud_31 rfl rfl ?_
      obtain ⟨hi9, h⟩ := h
      refine x_aaload11 hG dX8_loud_32 (kf_6_0 (kf_8_1 (rfl : kd 0 = 8)).1).1 (x_inE (kf_6_0 (kf_8_1 (rfl : kd 0 = 8)).1).2 hi9) ?_
      refine x_iload_n hG dX8_loud_33 rfl rfl ?_
      obtain ⟨hi10, h⟩ := h
      refine x_iaload hG dX8_loud_34 (ke_6_0 (kf_8_1 (rfl : kd 0 = 8)).1 (vp_lt hi9)).1 (x_inE (ke_6_0 (kf_8_1 (rfl : kd 0 = 8)).1 (vp_lt hi9)).2 hi10) ?_
      exact x_iret hG hQ dX8_loud_35 rfl h
    · have h := h.2 hc8
      refine x_iconst (v := (-1 : Int32)) hG dX8_loud_22 (by decide) ?_
      exact x_iret hG hQ dX8_loud_23 rfl h
abbrev rm_X8_heard : Room := { frames := 1, cells := 0, slots := 0, locals := 25 }
theorem hy_X8_heard : yX8_heard.cls = RX8 ∧ yX8_heard.cls ≠ "java/lang/invoke/MethodHandle" ∧ yX8_heard.cls ≠ "java/lang/invoke/VarHandle" ∧ (parseMethodDescriptor yX8_heard.desc).map (fun d => d.parameters.length) = some 2 := by decide +kernel
theorem hin_X8_heard_X8 : ∀ w ∈ wsX80, w ∈ wsX8_heard := fun _ h => List.mem_cons_of_mem _ (List.mem_append_left _ (List.mem_append_left _ (List.mem_append_right _ h)))
set_option maxRecDepth 100000 in
set_option maxHeartbeats 4000000 in
theorem c_X8_heard {l : Launch} {a : Nat → Nat} {M : xMem} {p1 : Int32} {p2 : Int32} {post : Int32 → xMem → Prop} (ha : xInj a) (h : w_X8_heard M p1 p2 post) : ∀ D cs sz, xMetI l yX8_heard wsX8_heard rm_X8_heard D a cs sz M [.ref (a 0), .int p1, .int p2] post := by
  intro D cs sz
  unfold w_X8_heard at h
  refine x_metI (ty := .int) [some (.ref (a 0)), some (.int p1), some (.int p2)] (by decide) rfl rfl (Nat.le_of_ble_eq_true rfl) rfl rfl ha D cs sz rfl (fun G e1 e2 hG hQ => ?_)
  subst e1
  subst e2
  refine x_aload_n hG dX8_heard_0 rfl rfl ?_
  refine x_get_8_5 hG dX8_heard_1 (rfl : kd 0 = 8) hin_X8_heard_X8 (List.mem_of_getElem? (i := 1) rfl) ?_
  refine x_iload_n hG dX8_heard_4 rfl rfl ?_
  have hk1 : kd ((M.1 0 5).toNatClampNeg) = 2 := And.left h
  refine x_cVI1 hG dX8_heard_5 (fun ha => c_X2_isYard ha h) gX8_heard_X2_isYard rfl ⟨rfl, rfl⟩ hy_X2_isYard ⟨Nat.le_of_ble_eq_true rfl, Nat.le_of_ble_eq_true rfl⟩ (kd_lt hk1 (by decide)) (fun _ => xc_2 hk1) rfl (Nat.le_of_ble_eq_true rfl) (fun z2 M3 h => ?_)
  refine x_if_ne (tgt := 13) hG dX8_heard_8 (by decide) (fun hc4 => ?_) (fun hc4 => ?_)
  · have h := h.1 hc4
    refine x_aload_n hG dX8_heard_13 rfl rfl ?_
    refine x_get_8_1 hG dX8_heard_14 (rfl : kd 0 = 8) hin_X8_heard_X8 (List.mem_of_getElem? (i := 2) rfl) ?_
    refine x_aload_n hG dX8_heard_17 rfl rfl ?_
    refine x_get_8_5 hG dX8_heard_18 (rfl : kd 0 = 8) hin_X8_heard_X8 (List.mem_of_getElem? (i := 1) rfl) ?_
    refine x_iload_n hG dX8_heard_21 rfl rfl ?_
    refine x_iload_n hG dX8_heard_22 rfl rfl ?_
    refine x_cVI3 hG dX8_heard_23 (fun ha => c_X6_heardIn ha h) gX8_heard_X6_heardIn rfl ⟨rfl, rfl⟩ hy_X6_heardIn ⟨Nat.le_of_ble_eq_true rfl, Nat.le_of_ble_eq_true rfl⟩ (kd_lt (rfl : kd 5 = 6) (by decide)) (fun _ => xc_6 (rfl : kd 5 = 6)) rfl (Nat.le_of_ble_eq_true rfl) (fun z5 M6 h => ?_)
    exact x_iret hG hQ dX8_heard_26 rfl h
  · have h := h.2 hc4
    refine x_iconst (v := (-1 : Int32)) hG dX8_heard_11 (by decide) ?_
    exact x_iret hG hQ dX8_heard_12 rfl h
