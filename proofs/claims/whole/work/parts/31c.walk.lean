abbrev rm_X9_hear : Room := { frames := 2, cells := 0, slots := 0, locals := 43 }
theorem hy_X9_hear : yX9_hear.cls = RX9 ∧ yX9_hear.cls ≠ "java/lang/invoke/MethodHandle" ∧ yX9_hear.cls ≠ "java/lang/invoke/VarHandle" ∧ (parseMethodDescriptor yX9_hear.desc).map (fun d => d.parameters.length) = some 2 := by decide +kernel
theorem hin_X9_hear_X9 : ∀ w ∈ wsX90, w ∈ wsX9_hear := fun _ h => List.mem_cons_of_mem _ (List.mem_append_right _ h)
set_option maxRecDepth 100000 in
set_option maxHeartbeats 4000000 in
theorem c_X9_hear {l : Launch} {a : Nat → Nat} {M : xMem} {p1 : Int32} {p2 : Int32} {post : Int32 → xMem → Prop} (ha : xInj a) (h : w_X9_hear M p1 p2 post) : ∀ D cs sz, xMetI l yX9_hear wsX9_hear rm_X9_hear D a cs sz M [.ref (a 81), .int p1, .int p2] post := by
  intro D cs sz
  unfold w_X9_hear at h
  refine x_metI (ty := .int) [some (.ref (a 81)), some (.int p1), some (.int p2)] (by decide) rfl rfl (Nat.le_of_ble_eq_true rfl) rfl rfl ha D cs sz rfl (fun G e1 e2 hG hQ => ?_)
  subst e1
  subst e2
  refine x_aload_n hG dX9_hear_0 rfl rfl ?_
  refine x_iconst (v := (0 : Int32)) hG dX9_hear_1 (by decide) ?_
  have h := h _ rfl
  refine x_put_9_0 hG dX9_hear_2 (rfl : kd 81 = 9) hin_X9_hear_X9 (List.mem_of_getElem? (i := 1) rfl) ?_
  refine x_aload_n hG dX9_hear_5 rfl rfl ?_
  refine x_iload_n hG dX9_hear_6 rfl rfl ?_
  refine x_cVI1 hG dX9_hear_7 (fun ha => c_X9_isYard ha h) gX9_hear_X9_isYard rfl ⟨rfl, rfl⟩ hy_X9_isYard ⟨Nat.le_of_ble_eq_true rfl, Nat.le_of_ble_eq_true rfl⟩ (kd_lt (rfl : kd 81 = 9) (by decide)) (fun _ => xc_9 (rfl : kd 81 = 9)) rfl (Nat.le_of_ble_eq_true rfl) (fun z2 M3 h => ?_)
  refine x_if_eq (tgt := 24) hG dX9_hear_10 (by decide) (fun hc4 => ?_) (fun hc4 => ?_)
  · have h := h.1 hc4
    refine x_iconst (v := (-1 : Int32)) hG dX9_hear_24 (by decide) ?_
    exact x_iret hG hQ dX9_hear_25 rfl h
  · have h := h.2 hc4
    refine x_iload_n hG dX9_hear_13 rfl rfl ?_
    refine x_iconst (v := (0 : Int32)) hG dX9_hear_14 (by decide) ?_
    refine x_sipush (v := (999 : Int32)) hG dX9_hear_15 (by decide) ?_
    refine x_cSI3 hG dX9_hear_18 (fun ha => c_X9_in ha h) gX9_hear_X9_in rfl ⟨rfl, rfl⟩ hy_X9_in ⟨Nat.le_of_ble_eq_true rfl, Nat.le_of_ble_eq_true rfl⟩ (Nat.le_of_ble_eq_true rfl) (fun z5 M6 h => ?_)
    refine x_if_ne (tgt := 26) hG dX9_hear_21 (by decide) (fun hc7 => ?_) (fun hc7 => ?_)
    · have h := h.1 hc7
      refine x_aload_n hG dX9_hear_26 rfl rfl ?_
      refine x_get_9_14 hG dX9_hear_27 (rfl : kd 81 = 9) hin_X9_hear_X9 (List.mem_of_getElem? (i := 2) rfl) ?_
      refine x_sipush (v := (194 : Int32)) hG dX9_hear_30 (by decide) ?_
      refine x_iaload hG dX9_hear_33 (kf_9_14 (rfl : kd 81 = 9)).1 (x_inE (kf_9_14 (rfl : kd 81 = 9)).2 (x_inC (by decide))) ?_
      refine x_bipush (v := (6 : Int32)) hG dX9_hear_34 (by decide) ?_
      refine x_icmp_ne (tgt := 42) hG dX9_hear_36 (by decide) (fun hc8 => ?_) (fun hc8 => ?_)
      · have h := h.1 hc8
        refine x_aload_n hG dX9_hear_42 rfl rfl ?_
        refine x_get_9_14 hG dX9_hear_43 (rfl : kd 81 = 9) hin_X9_hear_X9 (List.mem_of_getElem? (i := 2) rfl) ?_
        refine x_sipush (v := (195 : Int32)) hG dX9_hear_46 (by decide) ?_
        refine x_iconst (v := (2 : Int32)) hG dX9_hear_49 (by decide) ?_
        refine x_aload_n hG dX9_hear_50 rfl rfl ?_
        refine x_get_9_14 hG dX9_hear_51 (rfl : kd 81 = 9) hin_X9_hear_X9 (List.mem_of_getElem? (i := 2) rfl) ?_
        refine x_sipush (v := (194 : Int32)) hG dX9_hear_54 (by decide) ?_
        refine x_iaload hG dX9_hear_57 (kf_9_14 (rfl : kd 81 = 9)).1 (x_inE (kf_9_14 (rfl : kd 81 = 9)).2 (x_inC (by decide))) ?_
        refine x_imul hG dX9_hear_58 ?_
        refine x_iadd hG dX9_hear_59 ?_
        refine x_iload_n hG dX9_hear_60 rfl rfl ?_
        obtain ⟨hi9, h⟩ := h
        have h := h _ rfl
        refine x_iastore hG dX9_hear_61 (kf_9_14 (rfl : kd 81 = 9)).1 (x_inE (kf_9_14 (rfl : kd 81 = 9)).2 hi9) ?_
        refine x_aload_n hG dX9_hear_62 rfl rfl ?_
        refine x_get_9_14 hG dX9_hear_63 (rfl : kd 81 = 9) hin_X9_hear_X9 (List.mem_of_getElem? (i := 2) rfl) ?_
        refine x_sipush (v := (195 : Int32)) hG dX9_hear_66 (by decide) ?_
        refine x_iconst (v := (2 : Int32)) hG dX9_hear_69 (by decide) ?_
        refine x_aload_n hG dX9_hear_70 rfl rfl ?_
        refine x_get_9_14 hG dX9_hear_71 (rfl : kd 81 = 9) hin_X9_hear_X9 (List.mem_of_getElem? (i := 2) rfl) ?_
        refine x_sipush (v := (194 : Int32)) hG dX9_hear_74 (by decide) ?_
        refine x_iaload hG dX9_hear_77 (kf_9_14 (rfl : kd 81 = 9)).1 (x_inE (kf_9_14 (rfl : kd 81 = 9)).2 (x_inC (by decide))) ?_
        refine x_imul hG dX9_hear_78 ?_
        refine x_iadd hG dX9_hear_79 ?_
        refine x_iconst (v := (1 : Int32)) hG dX9_hear_80 (by decide) ?_
        refine x_iadd hG dX9_hear_81 ?_
        refine x_iload_n hG dX9_hear_82 rfl rfl ?_
        obtain ⟨hi11, h⟩ := h
        have h := h _ rfl
        refine x_iastore hG dX9_hear_83 (kf_9_14 (rfl : kd 81 = 9)).1 (x_inE (kf_9_14 (rfl : kd 81 = 9)).2 hi11) ?_
        refine x_aload_n hG dX9_hear_84 rfl rfl ?_
        refine x_get_9_14 hG dX9_hear_85 (rfl : kd 81 = 9) hin_X9_hear_X9 (List.mem_of_getElem? (i := 2) rfl) ?_
        refine x_sipush (v := (194 : Int32)) hG dX9_hear_88 (by decide) ?_
        refine x_dup2 hG dX9_hear_91 rfl rfl ?_
        refine x_iaload hG dX9_hear_92 (kf_9_14 (rfl : kd 81 = 9)).1 (x_inE (kf_9_14 (rfl : kd 81 = 9)).2 (x_inC (by decide))) ?_
        refine x_iconst (v := (1 : Int32)) hG dX9_hear_93 (by decide) ?_
        refine x_iadd hG dX9_hear_94 ?_
        have h := h _ rfl
        refine x_iastore hG dX9_hear_95 (kf_9_14 (rfl : kd 81 = 9)).1 (x_inE (kf_9_14 (rfl : kd 81 = 9)).2 (x_inC (by decide))) ?_
        refine x_aload_n hG dX9_hear_96 rfl rfl ?_
        refine x_get_9_14 hG dX9_hear_97 (rfl : kd 81 = 9) hin_X9_hear_X9 (List.mem_of_getElem? (i := 2) rfl) ?_
        refine x_sipush (v := (194 : Int32)) hG dX9_hear_100 (by decide) ?_
        refine x_iaload hG dX9_hear_103 (kf_9_14 (rfl : kd 81 = 9)).1 (x_inE (kf_9_14 (rfl : kd 81 = 9)).2 (x_inC (by decide))) ?_
        exact x_iret hG hQ dX9_hear_104 rfl h
      · have h := h.2 hc8
        refine x_bipush (v := (-3 : Int32)) hG dX9_hear_39 (by decide) ?_
        exact x_iret hG hQ dX9_hear_41 rfl h
    · have h := h.2 hc7
      refine x_iconst (v := (-1 : Int32)) hG dX9_hear_24 (by decide) ?_
      exact x_iret hG hQ dX9_hear_25 rfl h
abbrev rm_X9_forget : Room := { frames := 0, cells := 0, slots := 0, locals := 0 }
theorem hy_X9_forget : yX9_forget.cls = RX9 ∧ yX9_forget.cls ≠ "java/lang/invoke/MethodHandle" ∧ yX9_forget.cls ≠ "java/lang/invoke/VarHandle" ∧ (parseMethodDescriptor yX9_forget.desc).map (fun d => d.parameters.length) = some 0 := by decide +kernel
theorem hin_X9_forget_X9 : ∀ w ∈ wsX90, w ∈ wsX9_forget := fun _ h => List.mem_cons_of_mem _ (List.mem_append_right _ h)
set_option maxRecDepth 100000 in
set_option maxHeartbeats 4000000 in
theorem c_X9_forget {l : Launch} {a : Nat → Nat} {M : xMem} {post : Int32 → xMem → Prop} (ha : xInj a) (h : w_X9_forget M post) : ∀ D cs sz, xMetI l yX9_forget wsX9_forget rm_X9_forget D a cs sz M [.ref (a 81)] post := by
  intro D cs sz
  unfold w_X9_forget at h
  refine x_metI (ty := .int) [some (.ref (a 81)), none] (by decide) rfl rfl (Nat.le_of_ble_eq_true rfl) rfl rfl ha D cs sz rfl (fun G e1 e2 hG hQ => ?_)
  subst e1
  subst e2
  refine x_aload_n hG dX9_forget_0 rfl rfl ?_
  refine x_iconst (v := (0 : Int32)) hG dX9_forget_1 (by decide) ?_
  have h := h _ rfl
  refine x_put_9_0 hG dX9_forget_2 (rfl : kd 81 = 9) hin_X9_forget_X9 (List.mem_of_getElem? (i := 1) rfl) ?_
  refine x_aload_n hG dX9_forget_5 rfl rfl ?_
  refine x_get_9_14 hG dX9_forget_6 (rfl : kd 81 = 9) hin_X9_forget_X9 (List.mem_of_getElem? (i := 2) rfl) ?_
  refine x_sipush (v := (194 : Int32)) hG dX9_forget_9 (by decide) ?_
  refine x_iaload hG dX9_forget_12 (kf_9_14 (rfl : kd 81 = 9)).1 (x_inE (kf_9_14 (rfl : kd 81 = 9)).2 (x_inC (by decide))) ?_
  have h := h _ rfl
  refine x_istore_n hG dX9_forget_13 rfl (Nat.le_of_ble_eq_true rfl) rfl ?_
  refine x_aload_n hG dX9_forget_14 rfl rfl ?_
  refine x_get_9_14 hG dX9_forget_15 (rfl : kd 81 = 9) hin_X9_forget_X9 (List.mem_of_getElem? (i := 2) rfl) ?_
  refine x_sipush (v := (194 : Int32)) hG dX9_forget_18 (by decide) ?_
  refine x_iconst (v := (0 : Int32)) hG dX9_forget_21 (by decide) ?_
  have h := h _ rfl
  refine x_iastore hG dX9_forget_22 (kf_9_14 (rfl : kd 81 = 9)).1 (x_inE (kf_9_14 (rfl : kd 81 = 9)).2 (x_inC (by decide))) ?_
  refine x_iload_n hG dX9_forget_23 rfl rfl ?_
  exact x_iret hG hQ dX9_forget_24 rfl h
abbrev rm_X9_who : Room := { frames := 5, cells := 0, slots := 0, locals := 122 }
theorem hy_X9_who : yX9_who.cls = RX9 ∧ yX9_who.cls ≠ "java/lang/invoke/MethodHandle" ∧ yX9_who.cls ≠ "java/lang/invoke/VarHandle" ∧ (parseMethodDescriptor yX9_who.desc).map (fun d => d.parameters.length) = some 1 := by decide +kernel
theorem hin_X9_who_X9 : ∀ w ∈ wsX90, w ∈ wsX9_who := fun _ h => List.mem_cons_of_mem _ (List.mem_append_right _ h)
set_option maxRecDepth 100000 in
set_option maxHeartbeats 4000000 in
theorem k_X9_who_163 {G : xG} {post : Int32 → xMem → Prop} (hG : xOk G cX9_who RX9 wsX9_who rm_X9_who) (hQ : xRetI G post .int) {r37 : xMem → Int32 → Int32 → Int32 → Int32 → Int32 → Prop} (hr37 : ∀ (M : xMem) (p1 : Int32) (p2 : Int32) (p3 : Int32) (p4 : Int32) (p5 : Int32), r37 M p1 p2 p3 p4 p5 → xW G M [some (.ref (xa G 81)), some (.int p1), some (.int p2), some (.int p3), some (.int p4), some (.int p5), none, none] [] 37) : ∀ (M : xMem) (p1 : Int32) (p2 : Int32) (p3 : Int32) (p5 : Int32) (s0 : Int32) (s1 : Int32), b_X9_who_163 post r37 M p1 p2 p3 p5 s0 s1 → xW G M [some (.ref (xa G 81)), some (.int p1), some (.int p2), some (.int p3), none, some (.int p5), none, none] [.int s1, .int s0] 163 := by
  intro M p1 p2 p3 p5 s0 s1 h
  unfold b_X9_who_163 at h
  refine x_ior hG dX9_who_163 ?_
  refine x_istore hG dX9_who_164 (Nat.le_of_ble_eq_true rfl) rfl ?_
  refine x_iinc (v := _) hG dX9_who_166 rfl (x_iincE (k := 1) (by decide)) (Nat.le_of_ble_eq_true rfl) rfl ?_
  refine x_goto (tgt := 37) hG dX9_who_169 (by decide) ?_
  refine x_keep [true, true, true, true, true, true, false, false] rfl ?_
  exact hr37 _ _ _ _ _ _ h
set_option maxRecDepth 100000 in
set_option maxHeartbeats 4000000 in
theorem k_X9_who_148 {G : xG} {post : Int32 → xMem → Prop} (hG : xOk G cX9_who RX9 wsX9_who rm_X9_who) (hQ : xRetI G post .int) {r37 : xMem → Int32 → Int32 → Int32 → Int32 → Int32 → Prop} (hr37 : ∀ (M : xMem) (p1 : Int32) (p2 : Int32) (p3 : Int32) (p4 : Int32) (p5 : Int32), r37 M p1 p2 p3 p4 p5 → xW G M [some (.ref (xa G 81)), some (.int p1), some (.int p2), some (.int p3), some (.int p4), some (.int p5), none, none] [] 37) : ∀ (M : xMem) (p1 : Int32) (p2 : Int32) (p4 : Int32) (p5 : Int32) (p6 : Int32) (s0 : Int32) (s1 : Int32), b_X9_who_148 post r37 M p1 p2 p4 p5 p6 s0 s1 → xW G M [some (.ref (xa G 81)), some (.int p1), some (.int p2), none, some (.int p4), some (.int p5), some (.int p6), none] [.int s1, .int s0] 148 := by
  intro M p1 p2 p4 p5 p6 s0 s1 h
  unfold b_X9_who_148 at h
  refine x_iand hG dX9_who_148 ?_
  refine x_istore_n hG dX9_who_149 rfl (Nat.le_of_ble_eq_true rfl) rfl ?_
  refine x_iload hG dX9_who_150 rfl ?_
  refine x_iload hG dX9_who_152 rfl ?_
  refine x_if_eq (tgt := 162) hG dX9_who_154 (by decide) (fun hc1 => ?_) (fun hc1 => ?_)
  · have h := h.1 hc1
    refine x_iconst (v := (0 : Int32)) hG dX9_who_162 (by decide) ?_
    refine x_keep [true, true, true, true, false, true, false, false] rfl ?_
    exact k_X9_who_163 hG hQ hr37 _ _ _ _ _ _ _ h
  · have h := h.2 hc1
    refine x_iload hG dX9_who_157 rfl ?_
    refine x_goto (tgt := 163) hG dX9_who_159 (by decide) ?_
    refine x_keep [true, true, true, true, false, true, false, false] rfl ?_
    exact k_X9_who_163 hG hQ hr37 _ _ _ _ _ _ _ h
set_option maxRecDepth 100000 in
set_option maxHeartbeats 4000000 in
theorem k_X9_who_134 {G : xG} {post : Int32 → xMem → Prop} (hG : xOk G cX9_who RX9 wsX9_who rm_X9_who) (hQ : xRetI G post .int) {r37 : xMem → Int32 → Int32 → Int32 → Int32 → Int32 → Prop} (hr37 : ∀ (M : xMem) (p1 : Int32) (p2 : Int32) (p3 : Int32) (p4 : Int32) (p5 : Int32), r37 M p1 p2 p3 p4 p5 → xW G M [some (.ref (xa G 81)), some (.int p1), some (.int p2), some (.int p3), some (.int p4), some (.int p5), none, none] [] 37) : ∀ (M : xMem) (p1 : Int32) (p3 : Int32) (p4 : Int32) (p5 : Int32) (p6 : Int32) (s0 : Int32) (s1 : Int32), b_X9_who_134 post r37 M p1 p3 p4 p5 p6 s0 s1 → xW G M [some (.ref (xa G 81)), some (.int p1), none, some (.int p3), some (.int p4), some (.int p5), some (.int p6), none] [.int s1, .int s0] 134 := by
  intro M p1 p3 p4 p5 p6 s0 s1 h
  unfold b_X9_who_134 at h
  refine x_iadd hG dX9_who_134 ?_
  refine x_istore_n hG dX9_who_135 rfl (Nat.le_of_ble_eq_true rfl) rfl ?_
  refine x_iload_n hG dX9_who_136 rfl rfl ?_
  refine x_iload hG dX9_who_137 rfl ?_
  refine x_if_eq (tgt := 147) hG dX9_who_139 (by decide) (fun hc1 => ?_) (fun hc1 => ?_)
  · have h := h.1 hc1
    refine x_iload_n hG dX9_who_147 rfl rfl ?_
    refine x_keep [true, true, true, false, true, true, true, false] rfl ?_
    exact k_X9_who_148 hG hQ hr37 _ _ _ _ _ _ _ _ h
  · have h := h.2 hc1
    refine x_iload hG dX9_who_142 rfl ?_
    refine x_goto (tgt := 148) hG dX9_who_144 (by decide) ?_
    refine x_keep [true, true, true, false, true, true, true, false] rfl ?_
    exact k_X9_who_148 hG hQ hr37 _ _ _ _ _ _ _ _ h
set_option maxRecDepth 100000 in
set_option maxHeartbeats 4000000 in
theorem k_X9_who_115 {G : xG} {post : Int32 → xMem → Prop} (hG : xOk G cX9_who RX9 wsX9_who rm_X9_who) (hQ : xRetI G post .int) {r37 : xMem → Int32 → Int32 → Int32 → Int32 → Int32 → Prop} (hr37 : ∀ (M : xMem) (p1 : Int32) (p2 : Int32) (p3 : Int32) (p4 : Int32) (p5 : Int32), r37 M p1 p2 p3 p4 p5 → xW G M [some (.ref (xa G 81)), some (.int p1), some (.int p2), some (.int p3), some (.int p4), some (.int p5), none, none] [] 37) {r54 : xMem → Int32 → Int32 → Int32 → Int32 → Int32 → Int32 → Int32 → Prop} (hr54 : ∀ (M : xMem) (p1 : Int32) (p2 : Int32) (p3 : Int32) (p4 : Int32) (p5 : Int32) (p6 : Int32) (p7 : Int32), r54 M p1 p2 p3 p4 p5 p6 p7 → xW G M [some (.ref (xa G 81)), some (.int p1), some (.int p2), some (.int p3), some (.int p4), some (.int p5), some (.int p6), some (.int p7)] [] 54) : ∀ (M : xMem) (p1 : Int32) (p2 : Int32) (p3 : Int32) (p4 : Int32) (p5 : Int32) (p7 : Int32) (s0 : Int32), b_X9_who_115 post r37 r54 M p1 p2 p3 p4 p5 p7 s0 → xW G M [some (.ref (xa G 81)), some (.int p1), some (.int p2), some (.int p3), some (.int p4), some (.int p5), none, some (.int p7)] [.int s0] 115 := by
  intro M p1 p2 p3 p4 p5 p7 s0 h
  unfold b_X9_who_115 at h
  refine x_istore hG dX9_who_115 (Nat.le_of_ble_eq_true rfl) rfl ?_
  refine x_iinc (v := _) hG dX9_who_117 rfl (x_iincE (k := 1) (by decide)) (Nat.le_of_ble_eq_true rfl) rfl ?_
  refine x_goto (tgt := 54) hG dX9_who_120 (by decide) ?_
  refine x_keep [true, true, true, true, true, true, true, true] rfl ?_
  exact hr54 _ _ _ _ _ _ _ _ h
set_option maxRecDepth 100000 in
set_option maxHeartbeats 4000000 in
theorem k_X9_who_114 {G : xG} {post : Int32 → xMem → Prop} (hG : xOk G cX9_who RX9 wsX9_who rm_X9_who) (hQ : xRetI G post .int) {r37 : xMem → Int32 → Int32 → Int32 → Int32 → Int32 → Prop} (hr37 : ∀ (M : xMem) (p1 : Int32) (p2 : Int32) (p3 : Int32) (p4 : Int32) (p5 : Int32), r37 M p1 p2 p3 p4 p5 → xW G M [some (.ref (xa G 81)), some (.int p1), some (.int p2), some (.int p3), some (.int p4), some (.int p5), none, none] [] 37) {r54 : xMem → Int32 → Int32 → Int32 → Int32 → Int32 → Int32 → Int32 → Prop} (hr54 : ∀ (M : xMem) (p1 : Int32) (p2 : Int32) (p3 : Int32) (p4 : Int32) (p5 : Int32) (p6 : Int32) (p7 : Int32), r54 M p1 p2 p3 p4 p5 p6 p7 → xW G M [some (.ref (xa G 81)), some (.int p1), some (.int p2), some (.int p3), some (.int p4), some (.int p5), some (.int p6), some (.int p7)] [] 54) : ∀ (M : xMem) (p1 : Int32) (p2 : Int32) (p3 : Int32) (p4 : Int32) (p5 : Int32) (p7 : Int32), b_X9_who_114 post r37 r54 M p1 p2 p3 p4 p5 p7 → xW G M [some (.ref (xa G 81)), some (.int p1), some (.int p2), some (.int p3), some (.int p4), some (.int p5), none, some (.int p7)] [] 114 := by
  intro M p1 p2 p3 p4 p5 p7 h
  unfold b_X9_who_114 at h
  refine x_iconst (v := (0 : Int32)) hG dX9_who_114 (by decide) ?_
  refine x_keep [true, true, true, true, true, true, false, true] rfl ?_
  exact k_X9_who_115 hG hQ hr37 hr54 _ _ _ _ _ _ _ _ h
set_option maxRecDepth 100000 in
set_option maxHeartbeats 4000000 in
theorem k_X9_who_54 {G : xG} {post : Int32 → xMem → Prop} (hG : xOk G cX9_who RX9 wsX9_who rm_X9_who) (hQ : xRetI G post .int) {r37 : xMem → Int32 → Int32 → Int32 → Int32 → Int32 → Prop} (hr37 : ∀ (M : xMem) (p1 : Int32) (p2 : Int32) (p3 : Int32) (p4 : Int32) (p5 : Int32), r37 M p1 p2 p3 p4 p5 → xW G M [some (.ref (xa G 81)), some (.int p1), some (.int p2), some (.int p3), some (.int p4), some (.int p5), none, none] [] 37) : ∀ (M : xMem) (p1 : Int32) (p2 : Int32) (p3 : Int32) (p4 : Int32) (p5 : Int32) (p6 : Int32) (p7 : Int32), xlp8 (b_X9_who_54 post r37) M p1 p2 p3 p4 p5 p6 p7 → xW G M [some (.ref (xa G 81)), some (.int p1), some (.int p2), some (.int p3), some (.int p4), some (.int p5), some (.int p6), some (.int p7)] [] 54 := by
  refine xlp8_W (W := fun M p1 p2 p3 p4 p5 p6 p7 => xW G M [some (.ref (xa G 81)), some (.int p1), some (.int p2), some (.int p3), some (.int p4), some (.int p5), some (.int p6), some (.int p7)] [] 54) (fun r54 hr54 => ?_)
  intro M p1 p2 p3 p4 p5 p6 p7 h
  unfold b_X9_who_54 at h
  refine x_iload hG dX9_who_54 rfl ?_
  refine x_aload_n hG dX9_who_56 rfl rfl ?_
  refine x_get_9_14 hG dX9_who_57 (rfl : kd 81 = 9) hin_X9_who_X9 (List.mem_of_getElem? (i := 3) rfl) ?_
  refine x_sipush (v := (194 : Int32)) hG dX9_who_60 (by decide) ?_
  refine x_iaload hG dX9_who_63 (kf_9_14 (rfl : kd 81 = 9)).1 (x_inE (kf_9_14 (rfl : kd 81 = 9)).2 (x_inC (by decide))) ?_
  refine x_icmp_ge (tgt := 123) hG dX9_who_64 (by decide) (fun hc1 => ?_) (fun hc1 => ?_)
  · have h := h.1 hc1
    refine x_iload_n hG dX9_who_123 rfl rfl ?_
    refine x_iload hG dX9_who_124 rfl ?_
    refine x_if_eq (tgt := 133) hG dX9_who_126 (by decide) (fun hc2 => ?_) (fun hc2 => ?_)
    · have h := h.1 hc2
      refine x_iconst (v := (0 : Int32)) hG dX9_who_133 (by decide) ?_
      refine x_keep [true, true, false, true, true, true, true, false] rfl ?_
      exact k_X9_who_134 hG hQ hr37 _ _ _ _ _ _ _ _ h
    · have h := h.2 hc2
      refine x_iconst (v := (1 : Int32)) hG dX9_who_129 (by decide) ?_
      refine x_goto (tgt := 134) hG dX9_who_130 (by decide) ?_
      refine x_keep [true, true, false, true, true, true, true, false] rfl ?_
      exact k_X9_who_134 hG hQ hr37 _ _ _ _ _ _ _ _ h
  · have h := h.2 hc1
    refine x_iload hG dX9_who_67 rfl ?_
    refine x_if_eq (tgt := 114) hG dX9_who_69 (by decide) (fun hc3 => ?_) (fun hc3 => ?_)
    · have h := h.1 hc3
      refine x_keep [true, true, true, true, true, true, false, true] rfl ?_
      exact k_X9_who_114 hG hQ hr37 hr54 _ _ _ _ _ _ _ h
    · have h := h.2 hc3
      refine x_aload_n hG dX9_who_72 rfl rfl ?_
      refine x_aload_n hG dX9_who_73 rfl rfl ?_
      refine x_get_9_14 hG dX9_who_74 (rfl : kd 81 = 9) hin_X9_who_X9 (List.mem_of_getElem? (i := 3) rfl) ?_
      refine x_sipush (v := (195 : Int32)) hG dX9_who_77 (by decide) ?_
      refine x_iconst (v := (2 : Int32)) hG dX9_who_80 (by decide) ?_
      refine x_iload hG dX9_who_81 rfl ?_
      refine x_imul hG dX9_who_83 ?_
      refine x_iadd hG dX9_who_84 ?_
      obtain ⟨hi4, h⟩ := h
      refine x_iaload hG dX9_who_85 (kf_9_14 (rfl : kd 81 = 9)).1 (x_inE (kf_9_14 (rfl : kd 81 = 9)).2 hi4) ?_
      refine x_iload hG dX9_who_86 rfl ?_
      refine x_iconst (v := (0 : Int32)) hG dX9_who_88 (by decide) ?_
      refine x_cVI3 hG dX9_who_89 (fun ha => c_X9_heardBy ha h) gX9_who_X9_heardBy rfl ⟨rfl, rfl⟩ hy_X9_heardBy ⟨Nat.le_of_ble_eq_true rfl, Nat.le_of_ble_eq_true rfl⟩ (kd_lt (rfl : kd 81 = 9) (by decide)) (fun _ => xc_9 (rfl : kd 81 = 9)) rfl (Nat.le_of_ble_eq_true rfl) (fun z5 M6 h => ?_)
      refine x_aload_n hG dX9_who_92 rfl rfl ?_
      refine x_get_9_14 hG dX9_who_93 (rfl : kd 81 = 9) hin_X9_who_X9 (List.mem_of_getElem? (i := 3) rfl) ?_
      refine x_sipush (v := (195 : Int32)) hG dX9_who_96 (by decide) ?_
      refine x_iconst (v := (2 : Int32)) hG dX9_who_99 (by decide) ?_
      refine x_iload hG dX9_who_100 rfl ?_
      refine x_imul hG dX9_who_102 ?_
      refine x_iadd hG dX9_who_103 ?_
      refine x_iconst (v := (1 : Int32)) hG dX9_who_104 (by decide) ?_
      refine x_iadd hG dX9_who_105 ?_
      obtain ⟨hi7, h⟩ := h
      refine x_iaload hG dX9_who_106 (kf_9_14 (rfl : kd 81 = 9)).1 (x_inE (kf_9_14 (rfl : kd 81 = 9)).2 hi7) ?_
      refine x_icmp_ne (tgt := 114) hG dX9_who_107 (by decide) (fun hc8 => ?_) (fun hc8 => ?_)
      · have h := h.1 hc8
        refine x_keep [true, true, true, true, true, true, false, true] rfl ?_
        exact k_X9_who_114 hG hQ hr37 hr54 _ _ _ _ _ _ _ h
      · have h := h.2 hc8
        refine x_iconst (v := (1 : Int32)) hG dX9_who_110 (by decide) ?_
        refine x_goto (tgt := 115) hG dX9_who_111 (by decide) ?_
        refine x_keep [true, true, true, true, true, true, false, true] rfl ?_
        exact k_X9_who_115 hG hQ hr37 hr54 _ _ _ _ _ _ _ _ h
set_option maxRecDepth 100000 in
set_option maxHeartbeats 4000000 in
theorem k_X9_who_37 {G : xG} {post : Int32 → xMem → Prop} (hG : xOk G cX9_who RX9 wsX9_who rm_X9_who) (hQ : xRetI G post .int) : ∀ (M : xMem) (p1 : Int32) (p2 : Int32) (p3 : Int32) (p4 : Int32) (p5 : Int32), xlp6 (b_X9_who_37 post) M p1 p2 p3 p4 p5 → xW G M [some (.ref (xa G 81)), some (.int p1), some (.int p2), some (.int p3), some (.int p4), some (.int p5), none, none] [] 37 := by
  refine xlp6_W (W := fun M p1 p2 p3 p4 p5 => xW G M [some (.ref (xa G 81)), some (.int p1), some (.int p2), some (.int p3), some (.int p4), some (.int p5), none, none] [] 37) (fun r37 hr37 => ?_)
  intro M p1 p2 p3 p4 p5 h
  unfold b_X9_who_37 at h
  refine x_iload hG dX9_who_37 rfl ?_
  refine x_iconst (v := (1 : Int32)) hG dX9_who_39 (by decide) ?_
  refine x_aload_n hG dX9_who_40 rfl rfl ?_
  refine x_get_9_20 hG dX9_who_41 (rfl : kd 81 = 9) hin_X9_who_X9 (List.mem_of_getElem? (i := 2) rfl) ?_
  refine x_ishl hG dX9_who_44 ?_
  refine x_icmp_ge (tgt := 172) hG dX9_who_45 (by decide) (fun hc1 => ?_) (fun hc1 => ?_)
  · have h := h.1 hc1
    refine x_iload_n hG dX9_who_172 rfl rfl ?_
    refine x_if_ne (tgt := 180) hG dX9_who_173 (by decide) (fun hc2 => ?_) (fun hc2 => ?_)
    · have h := h.1 hc2
      refine x_iload_n hG dX9_who_180 rfl rfl ?_
      refine x_iconst (v := (2 : Int32)) hG dX9_who_181 (by decide) ?_
      refine x_icmp_ne (tgt := 190) hG dX9_who_182 (by decide) (fun hc3 => ?_) (fun hc3 => ?_)
      · have h := h.1 hc3
        refine x_iload_n hG dX9_who_190 rfl rfl ?_
        refine x_if_ne (tgt := 199) hG dX9_who_191 (by decide) (fun hc4 => ?_) (fun hc4 => ?_)
        · have h := h.1 hc4
          refine x_iload_n hG dX9_who_199 rfl rfl ?_
          exact x_iret hG hQ dX9_who_200 rfl h
        · have h := h.2 hc4
          refine x_bipush (v := (-9 : Int32)) hG dX9_who_194 (by decide) ?_
          refine x_goto (tgt := 200) hG dX9_who_196 (by decide) ?_
          exact x_iret hG hQ dX9_who_200 rfl h
      · have h := h.2 hc3
        refine x_iload hG dX9_who_185 rfl ?_
        refine x_goto (tgt := 200) hG dX9_who_187 (by decide) ?_
        exact x_iret hG hQ dX9_who_200 rfl h
    · have h := h.2 hc2
      refine x_iload_n hG dX9_who_176 rfl rfl ?_
      refine x_goto (tgt := 200) hG dX9_who_177 (by decide) ?_
      exact x_iret hG hQ dX9_who_200 rfl h
  · have h := h.2 hc1
    refine x_iconst (v := (1 : Int32)) hG dX9_who_48 (by decide) ?_
    refine x_istore hG dX9_who_49 (Nat.le_of_ble_eq_true rfl) rfl ?_
    refine x_iconst (v := (0 : Int32)) hG dX9_who_51 (by decide) ?_
    refine x_istore hG dX9_who_52 (Nat.le_of_ble_eq_true rfl) rfl ?_
    refine x_keep [true, true, true, true, true, true, true, true] rfl ?_
    exact k_X9_who_54 hG hQ hr37 _ _ _ _ _ _ _ _ h
set_option maxRecDepth 100000 in
set_option maxHeartbeats 4000000 in
theorem c_X9_who {l : Launch} {a : Nat → Nat} {M : xMem} {p1 : Int32} {post : Int32 → xMem → Prop} (ha : xInj a) (h : w_X9_who M p1 post) : ∀ D cs sz, xMetI l yX9_who wsX9_who rm_X9_who D a cs sz M [.ref (a 81), .int p1] post := by
  intro D cs sz
  unfold w_X9_who at h
  refine x_metI (ty := .int) [some (.ref (a 81)), some (.int p1), none, none, none, none, none, none] (by decide) rfl rfl (Nat.le_of_ble_eq_true rfl) rfl rfl ha D cs sz rfl (fun G e1 e2 hG hQ => ?_)
  subst e1
  subst e2
  refine x_aload_n hG dX9_who_0 rfl rfl ?_
  refine x_iconst (v := (0 : Int32)) hG dX9_who_1 (by decide) ?_
  have h := h _ rfl
  refine x_put_9_0 hG dX9_who_2 (rfl : kd 81 = 9) hin_X9_who_X9 (List.mem_of_getElem? (i := 1) rfl) ?_
  refine x_iload_n hG dX9_who_5 rfl rfl ?_
  refine x_iconst (v := (0 : Int32)) hG dX9_who_6 (by decide) ?_
  refine x_iconst (v := (2 : Int32)) hG dX9_who_7 (by decide) ?_
  refine x_cSI3 hG dX9_who_8 (fun ha => c_X9_in ha h) gX9_who_X9_in rfl ⟨rfl, rfl⟩ hy_X9_in ⟨Nat.le_of_ble_eq_true rfl, Nat.le_of_ble_eq_true rfl⟩ (Nat.le_of_ble_eq_true rfl) (fun z2 M3 h => ?_)
  refine x_if_ne (tgt := 16) hG dX9_who_11 (by decide) (fun hc4 => ?_) (fun hc4 => ?_)
  · have h := h.1 hc4
    refine x_aload_n hG dX9_who_16 rfl rfl ?_
    refine x_cVV0 hG dX9_who_17 (fun ha => c_X9_spreadsAll ha h) gX9_who_X9_spreadsAll rfl ⟨rfl, rfl⟩ hy_X9_spreadsAll ⟨Nat.le_of_ble_eq_true rfl, Nat.le_of_ble_eq_true rfl⟩ (kd_lt (rfl : kd 81 = 9) (by decide)) (fun _ => xc_9 (rfl : kd 81 = 9)) rfl (Nat.le_of_ble_eq_true rfl) (fun M6 h => ?_)
    refine x_iconst (v := (0 : Int32)) hG dX9_who_20 (by decide) ?_
    refine x_istore_n hG dX9_who_21 rfl (Nat.le_of_ble_eq_true rfl) rfl ?_
    refine x_iconst (v := (1 : Int32)) hG dX9_who_22 (by decide) ?_
    refine x_aload_n hG dX9_who_23 rfl rfl ?_
    refine x_get_9_20 hG dX9_who_24 (rfl : kd 81 = 9) hin_X9_who_X9 (List.mem_of_getElem? (i := 2) rfl) ?_
    refine x_ishl hG dX9_who_27 ?_
    refine x_iconst (v := (1 : Int32)) hG dX9_who_28 (by decide) ?_
    refine x_isub hG dX9_who_29 ?_
    have h := h _ rfl
    refine x_istore_n hG dX9_who_30 rfl (Nat.le_of_ble_eq_true rfl) rfl ?_
    refine x_iconst (v := (0 : Int32)) hG dX9_who_31 (by decide) ?_
    refine x_istore hG dX9_who_32 (Nat.le_of_ble_eq_true rfl) rfl ?_
    refine x_iconst (v := (0 : Int32)) hG dX9_who_34 (by decide) ?_
    refine x_istore hG dX9_who_35 (Nat.le_of_ble_eq_true rfl) rfl ?_
    refine x_keep [true, true, true, true, true, true, false, false] rfl ?_
    exact k_X9_who_37 hG hQ _ _ _ _ _ _ h
  · have h := h.2 hc4
    refine x_iconst (v := (-1 : Int32)) hG dX9_who_14 (by decide) ?_
    exact x_iret hG hQ dX9_who_15 rfl h
abbrev rm_X9_price : Room := { frames := 2, cells := 0, slots := 0, locals := 46 }
theorem hy_X9_price : yX9_price.cls = RX9 ∧ yX9_price.cls ≠ "java/lang/invoke/MethodHandle" ∧ yX9_price.cls ≠ "java/lang/invoke/VarHandle" ∧ (parseMethodDescriptor yX9_price.desc).map (fun d => d.parameters.length) = some 2 := by decide +kernel
theorem hin_X9_price_X9 : ∀ w ∈ wsX90, w ∈ wsX9_price := fun _ h => List.mem_cons_of_mem _ (List.mem_append_right _ h)
set_option maxRecDepth 100000 in
set_option maxHeartbeats 4000000 in
theorem k_X9_price_176 {G : xG} {post : Int32 → xMem → Prop} (hG : xOk G cX9_price RX9 wsX9_price rm_X9_price) (hQ : xRetI G post .int) {r31 : xMem → Int32 → Int32 → Int32 → Int32 → Int32 → Prop} (hr31 : ∀ (M : xMem) (p1 : Int32) (p2 : Int32) (p3 : Int32) (p4 : Int32) (p5 : Int32), r31 M p1 p2 p3 p4 p5 → xW G M [some (.ref (xa G 81)), some (.int p1), some (.int p2), some (.int p3), some (.int p4), some (.int p5), none, none, none] [] 31) : ∀ (M : xMem) (p1 : Int32) (p2 : Int32) (p3 : Int32) (p5 : Int32) (s0 : Int32), b_X9_price_176 post r31 M p1 p2 p3 p5 s0 → xW G M [some (.ref (xa G 81)), some (.int p1), some (.int p2), some (.int p3), none, some (.int p5), none, none, none] [.int s0] 176 := by
  intro M p1 p2 p3 p5 s0 h
  unfold b_X9_price_176 at h
  refine x_istore hG dX9_price_176 (Nat.le_of_ble_eq_true rfl) rfl ?_
  refine x_iinc (v := _) hG dX9_price_178 rfl (x_iincE (k := 1) (by decide)) (Nat.le_of_ble_eq_true rfl) rfl ?_
  refine x_goto (tgt := 31) hG dX9_price_181 (by decide) ?_
  refine x_keep [true, true, true, true, true, true, false, false, false] rfl ?_
  exact hr31 _ _ _ _ _ _ h
set_option maxRecDepth 100000 in
set_option maxHeartbeats 4000000 in
theorem k_X9_price_161 {G : xG} {post : Int32 → xMem → Prop} (hG : xOk G cX9_price RX9 wsX9_price rm_X9_price) (hQ : xRetI G post .int) {r31 : xMem → Int32 → Int32 → Int32 → Int32 → Int32 → Prop} (hr31 : ∀ (M : xMem) (p1 : Int32) (p2 : Int32) (p3 : Int32) (p4 : Int32) (p5 : Int32), r31 M p1 p2 p3 p4 p5 → xW G M [some (.ref (xa G 81)), some (.int p1), some (.int p2), some (.int p3), some (.int p4), some (.int p5), none, none, none] [] 31) : ∀ (M : xMem) (p1 : Int32) (p2 : Int32) (p4 : Int32) (p5 : Int32) (p6 : Int32) (p7 : Int32) (s0 : Int32), b_X9_price_161 post r31 M p1 p2 p4 p5 p6 p7 s0 → xW G M [some (.ref (xa G 81)), some (.int p1), some (.int p2), none, some (.int p4), some (.int p5), some (.int p6), some (.int p7), none] [.int s0] 161 := by
  intro M p1 p2 p4 p5 p6 p7 s0 h
  unfold b_X9_price_161 at h
  refine x_istore_n hG dX9_price_161 rfl (Nat.le_of_ble_eq_true rfl) rfl ?_
  refine x_iload hG dX9_price_162 rfl ?_
  refine x_iload hG dX9_price_164 rfl ?_
  refine x_icmp_ne (tgt := 174) hG dX9_price_166 (by decide) (fun hc1 => ?_) (fun hc1 => ?_)
  · have h := h.1 hc1
    refine x_iload hG dX9_price_174 rfl ?_
    refine x_keep [true, true, true, true, false, true, false, false, false] rfl ?_
    exact k_X9_price_176 hG hQ hr31 _ _ _ _ _ _ h
  · have h := h.2 hc1
    refine x_iload hG dX9_price_169 rfl ?_
    refine x_goto (tgt := 176) hG dX9_price_171 (by decide) ?_
    refine x_keep [true, true, true, true, false, true, false, false, false] rfl ?_
    exact k_X9_price_176 hG hQ hr31 _ _ _ _ _ _ h
set_option maxRecDepth 100000 in
set_option maxHeartbeats 4000000 in
theorem k_X9_price_160 {G : xG} {post : Int32 → xMem → Prop} (hG : xOk G cX9_price RX9 wsX9_price rm_X9_price) (hQ : xRetI G post .int) {r31 : xMem → Int32 → Int32 → Int32 → Int32 → Int32 → Prop} (hr31 : ∀ (M : xMem) (p1 : Int32) (p2 : Int32) (p3 : Int32) (p4 : Int32) (p5 : Int32), r31 M p1 p2 p3 p4 p5 → xW G M [some (.ref (xa G 81)), some (.int p1), some (.int p2), some (.int p3), some (.int p4), some (.int p5), none, none, none] [] 31) : ∀ (M : xMem) (p1 : Int32) (p2 : Int32) (p3 : Int32) (p4 : Int32) (p5 : Int32) (p6 : Int32) (p7 : Int32), b_X9_price_160 post r31 M p1 p2 p3 p4 p5 p6 p7 → xW G M [some (.ref (xa G 81)), some (.int p1), some (.int p2), some (.int p3), some (.int p4), some (.int p5), some (.int p6), some (.int p7), none] [] 160 := by
  intro M p1 p2 p3 p4 p5 p6 p7 h
  unfold b_X9_price_160 at h
  refine x_iload_n hG dX9_price_160 rfl rfl ?_
  refine x_keep [true, true, true, false, true, true, true, true, false] rfl ?_
  exact k_X9_price_161 hG hQ hr31 _ _ _ _ _ _ _ _ h
set_option maxRecDepth 100000 in
set_option maxHeartbeats 4000000 in
theorem k_X9_price_133 {G : xG} {post : Int32 → xMem → Prop} (hG : xOk G cX9_price RX9 wsX9_price rm_X9_price) (hQ : xRetI G post .int) {r31 : xMem → Int32 → Int32 → Int32 → Int32 → Int32 → Prop} (hr31 : ∀ (M : xMem) (p1 : Int32) (p2 : Int32) (p3 : Int32) (p4 : Int32) (p5 : Int32), r31 M p1 p2 p3 p4 p5 → xW G M [some (.ref (xa G 81)), some (.int p1), some (.int p2), some (.int p3), some (.int p4), some (.int p5), none, none, none] [] 31) {r101 : xMem → Int32 → Int32 → Int32 → Int32 → Int32 → Int32 → Int32 → Int32 → Prop} (hr101 : ∀ (M : xMem) (p1 : Int32) (p2 : Int32) (p3 : Int32) (p4 : Int32) (p5 : Int32) (p6 : Int32) (p7 : Int32) (p8 : Int32), r101 M p1 p2 p3 p4 p5 p6 p7 p8 → xW G M [some (.ref (xa G 81)), some (.int p1), some (.int p2), some (.int p3), some (.int p4), some (.int p5), some (.int p6), some (.int p7), some (.int p8)] [] 101) : ∀ (M : xMem) (p1 : Int32) (p2 : Int32) (p3 : Int32) (p4 : Int32) (p5 : Int32) (p6 : Int32) (p8 : Int32) (s0 : Int32) (s1 : Int32), b_X9_price_133 post r31 r101 M p1 p2 p3 p4 p5 p6 p8 s0 s1 → xW G M [some (.ref (xa G 81)), some (.int p1), some (.int p2), some (.int p3), some (.int p4), some (.int p5), some (.int p6), none, some (.int p8)] [.int s1, .int s0] 133 := by
  intro M p1 p2 p3 p4 p5 p6 p8 s0 s1 h
  unfold b_X9_price_133 at h
  refine x_iadd hG dX9_price_133 ?_
  refine x_istore hG dX9_price_134 (Nat.le_of_ble_eq_true rfl) rfl ?_
  refine x_iinc (v := _) hG dX9_price_136 rfl (x_iincE (k := 1) (by decide)) (Nat.le_of_ble_eq_true rfl) rfl ?_
  refine x_goto (tgt := 101) hG dX9_price_139 (by decide) ?_
  refine x_keep [true, true, true, true, true, true, true, true, true] rfl ?_
  exact hr101 _ _ _ _ _ _ _ _ _ h
set_option maxRecDepth 100000 in
set_option maxHeartbeats 4000000 in
theorem k_X9_price_101 {G : xG} {post : Int32 → xMem → Prop} (hG : xOk G cX9_price RX9 wsX9_price rm_X9_price) (hQ : xRetI G post .int) {r31 : xMem → Int32 → Int32 → Int32 → Int32 → Int32 → Prop} (hr31 : ∀ (M : xMem) (p1 : Int32) (p2 : Int32) (p3 : Int32) (p4 : Int32) (p5 : Int32), r31 M p1 p2 p3 p4 p5 → xW G M [some (.ref (xa G 81)), some (.int p1), some (.int p2), some (.int p3), some (.int p4), some (.int p5), none, none, none] [] 31) : ∀ (M : xMem) (p1 : Int32) (p2 : Int32) (p3 : Int32) (p4 : Int32) (p5 : Int32) (p6 : Int32) (p7 : Int32) (p8 : Int32), xlp9 (b_X9_price_101 post r31) M p1 p2 p3 p4 p5 p6 p7 p8 → xW G M [some (.ref (xa G 81)), some (.int p1), some (.int p2), some (.int p3), some (.int p4), some (.int p5), some (.int p6), some (.int p7), some (.int p8)] [] 101 := by
  refine xlp9_W (W := fun M p1 p2 p3 p4 p5 p6 p7 p8 => xW G M [some (.ref (xa G 81)), some (.int p1), some (.int p2), some (.int p3), some (.int p4), some (.int p5), some (.int p6), some (.int p7), some (.int p8)] [] 101) (fun r101 hr101 => ?_)
  intro M p1 p2 p3 p4 p5 p6 p7 p8 h
  unfold b_X9_price_101 at h
  refine x_iload hG dX9_price_101 rfl ?_
  refine x_aload_n hG dX9_price_103 rfl rfl ?_
  refine x_get_9_20 hG dX9_price_104 (rfl : kd 81 = 9) hin_X9_price_X9 (List.mem_of_getElem? (i := 4) rfl) ?_
  refine x_icmp_ge (tgt := 142) hG dX9_price_107 (by decide) (fun hc1 => ?_) (fun hc1 => ?_)
  · have h := h.1 hc1
    refine x_iload hG dX9_price_142 rfl ?_
    refine x_iload hG dX9_price_144 rfl ?_
    refine x_icmp_ne (tgt := 160) hG dX9_price_146 (by decide) (fun hc2 => ?_) (fun hc2 => ?_)
    · have h := h.1 hc2
      refine x_keep [true, true, true, true, true, true, true, true, false] rfl ?_
      exact k_X9_price_160 hG hQ hr31 _ _ _ _ _ _ _ _ h
    · have h := h.2 hc2
      refine x_iload_n hG dX9_price_149 rfl rfl ?_
      refine x_bipush (v := (-9 : Int32)) hG dX9_price_150 (by decide) ?_
      refine x_icmp_ne (tgt := 160) hG dX9_price_152 (by decide) (fun hc3 => ?_) (fun hc3 => ?_)
      · have h := h.1 hc3
        refine x_keep [true, true, true, true, true, true, true, true, false] rfl ?_
        exact k_X9_price_160 hG hQ hr31 _ _ _ _ _ _ _ _ h
      · have h := h.2 hc3
        refine x_iload hG dX9_price_155 rfl ?_
        refine x_goto (tgt := 161) hG dX9_price_157 (by decide) ?_
        refine x_keep [true, true, true, false, true, true, true, true, false] rfl ?_
        exact k_X9_price_161 hG hQ hr31 _ _ _ _ _ _ _ _ h
  · have h := h.2 hc1
    refine x_iload hG dX9_price_110 rfl ?_
    refine x_aload_n hG dX9_price_112 rfl rfl ?_
    refine x_get_9_18 hG dX9_price_113 (rfl : kd 81 = 9) hin_X9_price_X9 (List.mem_of_getElem? (i := 5) rfl) ?_
    refine x_iconst (v := (4 : Int32)) hG dX9_price_116 (by decide) ?_
    refine x_iload hG dX9_price_117 rfl ?_
    refine x_imul hG dX9_price_119 ?_
    refine x_iconst (v := (3 : Int32)) hG dX9_price_120 (by decide) ?_
    refine x_iadd hG dX9_price_121 ?_
    obtain ⟨hi4, h⟩ := h
    refine x_iaload hG dX9_price_122 (kf_9_18 (rfl : kd 81 = 9)).1 (x_inE (kf_9_18 (rfl : kd 81 = 9)).2 hi4) ?_
    refine x_iload hG dX9_price_123 rfl ?_
    refine x_icmp_lt (tgt := 132) hG dX9_price_125 (by decide) (fun hc5 => ?_) (fun hc5 => ?_)
    · have h := h.1 hc5
      refine x_iconst (v := (0 : Int32)) hG dX9_price_132 (by decide) ?_
      refine x_keep [true, true, true, true, true, true, true, false, true] rfl ?_
      exact k_X9_price_133 hG hQ hr31 hr101 _ _ _ _ _ _ _ _ _ _ h
    · have h := h.2 hc5
      refine x_iconst (v := (1 : Int32)) hG dX9_price_128 (by decide) ?_
      refine x_goto (tgt := 133) hG dX9_price_129 (by decide) ?_
      refine x_keep [true, true, true, true, true, true, true, false, true] rfl ?_
      exact k_X9_price_133 hG hQ hr31 hr101 _ _ _ _ _ _ _ _ _ _ h
set_option maxRecDepth 100000 in
set_option maxHeartbeats 4000000 in
theorem k_X9_price_89 {G : xG} {post : Int32 → xMem → Prop} (hG : xOk G cX9_price RX9 wsX9_price rm_X9_price) (hQ : xRetI G post .int) {r31 : xMem → Int32 → Int32 → Int32 → Int32 → Int32 → Prop} (hr31 : ∀ (M : xMem) (p1 : Int32) (p2 : Int32) (p3 : Int32) (p4 : Int32) (p5 : Int32), r31 M p1 p2 p3 p4 p5 → xW G M [some (.ref (xa G 81)), some (.int p1), some (.int p2), some (.int p3), some (.int p4), some (.int p5), none, none, none] [] 31) {r47 : xMem → Int32 → Int32 → Int32 → Int32 → Int32 → Int32 → Int32 → Int32 → Prop} (hr47 : ∀ (M : xMem) (p1 : Int32) (p2 : Int32) (p3 : Int32) (p4 : Int32) (p5 : Int32) (p6 : Int32) (p7 : Int32) (p8 : Int32), r47 M p1 p2 p3 p4 p5 p6 p7 p8 → xW G M [some (.ref (xa G 81)), some (.int p1), some (.int p2), some (.int p3), some (.int p4), some (.int p5), some (.int p6), some (.int p7), some (.int p8)] [] 47) : ∀ (M : xMem) (p1 : Int32) (p2 : Int32) (p3 : Int32) (p4 : Int32) (p5 : Int32) (p7 : Int32) (p8 : Int32) (s0 : Int32) (s1 : Int32), b_X9_price_89 post r31 r47 M p1 p2 p3 p4 p5 p7 p8 s0 s1 → xW G M [some (.ref (xa G 81)), some (.int p1), some (.int p2), some (.int p3), some (.int p4), some (.int p5), none, some (.int p7), some (.int p8)] [.int s1, .int s0] 89 := by
  intro M p1 p2 p3 p4 p5 p7 p8 s0 s1 h
  unfold b_X9_price_89 at h
  refine x_iadd hG dX9_price_89 ?_
  refine x_istore hG dX9_price_90 (Nat.le_of_ble_eq_true rfl) rfl ?_
  refine x_iinc (v := _) hG dX9_price_92 rfl (x_iincE (k := 1) (by decide)) (Nat.le_of_ble_eq_true rfl) rfl ?_
  refine x_goto (tgt := 47) hG dX9_price_95 (by decide) ?_
  refine x_keep [true, true, true, true, true, true, true, true, true] rfl ?_
  exact hr47 _ _ _ _ _ _ _ _ _ h
set_option maxRecDepth 100000 in
set_option maxHeartbeats 4000000 in
theorem k_X9_price_88 {G : xG} {post : Int32 → xMem → Prop} (hG : xOk G cX9_price RX9 wsX9_price rm_X9_price) (hQ : xRetI G post .int) {r31 : xMem → Int32 → Int32 → Int32 → Int32 → Int32 → Prop} (hr31 : ∀ (M : xMem) (p1 : Int32) (p2 : Int32) (p3 : Int32) (p4 : Int32) (p5 : Int32), r31 M p1 p2 p3 p4 p5 → xW G M [some (.ref (xa G 81)), some (.int p1), some (.int p2), some (.int p3), some (.int p4), some (.int p5), none, none, none] [] 31) {r47 : xMem → Int32 → Int32 → Int32 → Int32 → Int32 → Int32 → Int32 → Int32 → Prop} (hr47 : ∀ (M : xMem) (p1 : Int32) (p2 : Int32) (p3 : Int32) (p4 : Int32) (p5 : Int32) (p6 : Int32) (p7 : Int32) (p8 : Int32), r47 M p1 p2 p3 p4 p5 p6 p7 p8 → xW G M [some (.ref (xa G 81)), some (.int p1), some (.int p2), some (.int p3), some (.int p4), some (.int p5), some (.int p6), some (.int p7), some (.int p8)] [] 47) : ∀ (M : xMem) (p1 : Int32) (p2 : Int32) (p3 : Int32) (p4 : Int32) (p5 : Int32) (p7 : Int32) (p8 : Int32) (s0 : Int32), b_X9_price_88 post r31 r47 M p1 p2 p3 p4 p5 p7 p8 s0 → xW G M [some (.ref (xa G 81)), some (.int p1), some (.int p2), some (.int p3), some (.int p4), some (.int p5), none, some (.int p7), some (.int p8)] [.int s0] 88 := by
  intro M p1 p2 p3 p4 p5 p7 p8 s0 h
  unfold b_X9_price_88 at h
  refine x_iconst (v := (0 : Int32)) hG dX9_price_88 (by decide) ?_
  refine x_keep [true, true, true, true, true, true, false, true, true] rfl ?_
  exact k_X9_price_89 hG hQ hr31 hr47 _ _ _ _ _ _ _ _ _ _ h
set_option maxRecDepth 100000 in
set_option maxHeartbeats 4000000 in
theorem k_X9_price_47 {G : xG} {post : Int32 → xMem → Prop} (hG : xOk G cX9_price RX9 wsX9_price rm_X9_price) (hQ : xRetI G post .int) {r31 : xMem → Int32 → Int32 → Int32 → Int32 → Int32 → Prop} (hr31 : ∀ (M : xMem) (p1 : Int32) (p2 : Int32) (p3 : Int32) (p4 : Int32) (p5 : Int32), r31 M p1 p2 p3 p4 p5 → xW G M [some (.ref (xa G 81)), some (.int p1), some (.int p2), some (.int p3), some (.int p4), some (.int p5), none, none, none] [] 31) : ∀ (M : xMem) (p1 : Int32) (p2 : Int32) (p3 : Int32) (p4 : Int32) (p5 : Int32) (p6 : Int32) (p7 : Int32) (p8 : Int32), xlp9 (b_X9_price_47 post r31) M p1 p2 p3 p4 p5 p6 p7 p8 → xW G M [some (.ref (xa G 81)), some (.int p1), some (.int p2), some (.int p3), some (.int p4), some (.int p5), some (.int p6), some (.int p7), some (.int p8)] [] 47 := by
  refine xlp9_W (W := fun M p1 p2 p3 p4 p5 p6 p7 p8 => xW G M [some (.ref (xa G 81)), some (.int p1), some (.int p2), some (.int p3), some (.int p4), some (.int p5), some (.int p6), some (.int p7), some (.int p8)] [] 47) (fun r47 hr47 => ?_)
  intro M p1 p2 p3 p4 p5 p6 p7 p8 h
  unfold b_X9_price_47 at h
  refine x_iload hG dX9_price_47 rfl ?_
  refine x_aload_n hG dX9_price_49 rfl rfl ?_
  refine x_get_9_21 hG dX9_price_50 (rfl : kd 81 = 9) hin_X9_price_X9 (List.mem_of_getElem? (i := 2) rfl) ?_
  refine x_icmp_ge (tgt := 98) hG dX9_price_53 (by decide) (fun hc1 => ?_) (fun hc1 => ?_)
  · have h := h.1 hc1
    refine x_iconst (v := (0 : Int32)) hG dX9_price_98 (by decide) ?_
    refine x_istore hG dX9_price_99 (Nat.le_of_ble_eq_true rfl) rfl ?_
    refine x_keep [true, true, true, true, true, true, true, true, true] rfl ?_
    exact k_X9_price_101 hG hQ hr31 _ _ _ _ _ _ _ _ _ h
  · have h := h.2 hc1
    refine x_iload hG dX9_price_56 rfl ?_
    refine x_aload_n hG dX9_price_58 rfl rfl ?_
    refine x_iload hG dX9_price_59 rfl ?_
    refine x_iload_n hG dX9_price_61 rfl rfl ?_
    refine x_cVI2 hG dX9_price_62 (fun ha => c_X9_holds ha h) gX9_price_X9_holds rfl ⟨rfl, rfl⟩ hy_X9_holds ⟨Nat.le_of_ble_eq_true rfl, Nat.le_of_ble_eq_true rfl⟩ (kd_lt (rfl : kd 81 = 9) (by decide)) (fun _ => xc_9 (rfl : kd 81 = 9)) rfl (Nat.le_of_ble_eq_true rfl) (fun z2 M3 h => ?_)
    refine x_if_eq (tgt := 88) hG dX9_price_65 (by decide) (fun hc4 => ?_) (fun hc4 => ?_)
    · have h := h.1 hc4
      refine x_keep [true, true, true, true, true, true, false, true, true] rfl ?_
      exact k_X9_price_88 hG hQ hr31 hr47 _ _ _ _ _ _ _ _ _ h
    · have h := h.2 hc4
      refine x_aload_n hG dX9_price_68 rfl rfl ?_
      refine x_get_9_19 hG dX9_price_69 (rfl : kd 81 = 9) hin_X9_price_X9 (List.mem_of_getElem? (i := 3) rfl) ?_
      refine x_iconst (v := (5 : Int32)) hG dX9_price_72 (by decide) ?_
      refine x_iload hG dX9_price_73 rfl ?_
      refine x_imul hG dX9_price_75 ?_
      refine x_iconst (v := (4 : Int32)) hG dX9_price_76 (by decide) ?_
      refine x_iadd hG dX9_price_77 ?_
      obtain ⟨hi5, h⟩ := h
      refine x_iaload hG dX9_price_78 (kf_9_19 (rfl : kd 81 = 9)).1 (x_inE (kf_9_19 (rfl : kd 81 = 9)).2 hi5) ?_
      refine x_iload hG dX9_price_79 rfl ?_
      refine x_icmp_gt (tgt := 88) hG dX9_price_81 (by decide) (fun hc6 => ?_) (fun hc6 => ?_)
      · have h := h.1 hc6
        refine x_keep [true, true, true, true, true, true, false, true, true] rfl ?_
        exact k_X9_price_88 hG hQ hr31 hr47 _ _ _ _ _ _ _ _ _ h
      · have h := h.2 hc6
        refine x_iconst (v := (1 : Int32)) hG dX9_price_84 (by decide) ?_
        refine x_goto (tgt := 89) hG dX9_price_85 (by decide) ?_
        refine x_keep [true, true, true, true, true, true, false, true, true] rfl ?_
        exact k_X9_price_89 hG hQ hr31 hr47 _ _ _ _ _ _ _ _ _ _ h
set_option maxRecDepth 100000 in
set_option maxHeartbeats 4000000 in
theorem k_X9_price_31 {G : xG} {post : Int32 → xMem → Prop} (hG : xOk G cX9_price RX9 wsX9_price rm_X9_price) (hQ : xRetI G post .int) : ∀ (M : xMem) (p1 : Int32) (p2 : Int32) (p3 : Int32) (p4 : Int32) (p5 : Int32), xlp6 (b_X9_price_31 post) M p1 p2 p3 p4 p5 → xW G M [some (.ref (xa G 81)), some (.int p1), some (.int p2), some (.int p3), some (.int p4), some (.int p5), none, none, none] [] 31 := by
  refine xlp6_W (W := fun M p1 p2 p3 p4 p5 => xW G M [some (.ref (xa G 81)), some (.int p1), some (.int p2), some (.int p3), some (.int p4), some (.int p5), none, none, none] [] 31) (fun r31 hr31 => ?_)
  intro M p1 p2 p3 p4 p5 h
  unfold b_X9_price_31 at h
  refine x_iload hG dX9_price_31 rfl ?_
  refine x_bipush (v := (100 : Int32)) hG dX9_price_33 (by decide) ?_
  refine x_icmp_ge (tgt := 184) hG dX9_price_35 (by decide) (fun hc1 => ?_) (fun hc1 => ?_)
  · have h := h.1 hc1
    refine x_iload_n hG dX9_price_184 rfl rfl ?_
    refine x_if_ne (tgt := 192) hG dX9_price_185 (by decide) (fun hc2 => ?_) (fun hc2 => ?_)
    · have h := h.1 hc2
      refine x_iload hG dX9_price_192 rfl ?_
      exact x_iret hG hQ dX9_price_194 rfl h
    · have h := h.2 hc2
      refine x_iload_n hG dX9_price_188 rfl rfl ?_
      refine x_goto (tgt := 194) hG dX9_price_189 (by decide) ?_
      exact x_iret hG hQ dX9_price_194 rfl h
  · have h := h.2 hc1
    refine x_iconst (v := (0 : Int32)) hG dX9_price_38 (by decide) ?_
    refine x_istore hG dX9_price_39 (Nat.le_of_ble_eq_true rfl) rfl ?_
    refine x_iconst (v := (0 : Int32)) hG dX9_price_41 (by decide) ?_
    refine x_istore hG dX9_price_42 (Nat.le_of_ble_eq_true rfl) rfl ?_
    refine x_iconst (v := (0 : Int32)) hG dX9_price_44 (by decide) ?_
    refine x_istore hG dX9_price_45 (Nat.le_of_ble_eq_true rfl) rfl ?_
    refine x_keep [true, true, true, true, true, true, true, true, true] rfl ?_
    exact k_X9_price_47 hG hQ hr31 _ _ _ _ _ _ _ _ _ h
set_option maxRecDepth 100000 in
set_option maxHeartbeats 4000000 in
theorem c_X9_price {l : Launch} {a : Nat → Nat} {M : xMem} {p1 : Int32} {p2 : Int32} {post : Int32 → xMem → Prop} (ha : xInj a) (h : w_X9_price M p1 p2 post) : ∀ D cs sz, xMetI l yX9_price wsX9_price rm_X9_price D a cs sz M [.ref (a 81), .int p1, .int p2] post := by
  intro D cs sz
  unfold w_X9_price at h
  refine x_metI (ty := .int) [some (.ref (a 81)), some (.int p1), some (.int p2), none, none, none, none, none, none] (by decide) rfl rfl (Nat.le_of_ble_eq_true rfl) rfl rfl ha D cs sz rfl (fun G e1 e2 hG hQ => ?_)
  subst e1
  subst e2
  refine x_aload_n hG dX9_price_0 rfl rfl ?_
  refine x_iconst (v := (0 : Int32)) hG dX9_price_1 (by decide) ?_
  have h := h _ rfl
  refine x_put_9_0 hG dX9_price_2 (rfl : kd 81 = 9) hin_X9_price_X9 (List.mem_of_getElem? (i := 1) rfl) ?_
  refine x_iload_n hG dX9_price_5 rfl rfl ?_
  refine x_cSI1 hG dX9_price_6 (fun ha => c_X9_isHour ha h) gX9_price_X9_isHour rfl ⟨rfl, rfl⟩ hy_X9_isHour ⟨Nat.le_of_ble_eq_true rfl, Nat.le_of_ble_eq_true rfl⟩ (Nat.le_of_ble_eq_true rfl) (fun z2 M3 h => ?_)
  refine x_if_eq (tgt := 19) hG dX9_price_9 (by decide) (fun hc4 => ?_) (fun hc4 => ?_)
  · have h := h.1 hc4
    refine x_iconst (v := (-1 : Int32)) hG dX9_price_19 (by decide) ?_
    exact x_iret hG hQ dX9_price_20 rfl h
  · have h := h.2 hc4
    refine x_iload_n hG dX9_price_12 rfl rfl ?_
    refine x_cSI1 hG dX9_price_13 (fun ha => c_X9_isBit ha h) gX9_price_X9_isBit rfl ⟨rfl, rfl⟩ hy_X9_isBit ⟨Nat.le_of_ble_eq_true rfl, Nat.le_of_ble_eq_true rfl⟩ (Nat.le_of_ble_eq_true rfl) (fun z5 M6 h => ?_)
    refine x_if_ne (tgt := 21) hG dX9_price_16 (by decide) (fun hc7 => ?_) (fun hc7 => ?_)
    · have h := h.1 hc7
      refine x_bipush (v := (-9 : Int32)) hG dX9_price_21 (by decide) ?_
      refine x_istore_n hG dX9_price_23 rfl (Nat.le_of_ble_eq_true rfl) rfl ?_
      refine x_bipush (v := (-9 : Int32)) hG dX9_price_24 (by decide) ?_
      refine x_istore hG dX9_price_26 (Nat.le_of_ble_eq_true rfl) rfl ?_
      refine x_iconst (v := (0 : Int32)) hG dX9_price_28 (by decide) ?_
      refine x_istore hG dX9_price_29 (Nat.le_of_ble_eq_true rfl) rfl ?_
      refine x_keep [true, true, true, true, true, true, false, false, false] rfl ?_
      exact k_X9_price_31 hG hQ _ _ _ _ _ _ h
    · have h := h.2 hc7
      refine x_iconst (v := (-1 : Int32)) hG dX9_price_19 (by decide) ?_
      exact x_iret hG hQ dX9_price_20 rfl h
abbrev rm_X9_rate : Room := { frames := 2, cells := 0, slots := 0, locals := 43 }
theorem hy_X9_rate : yX9_rate.cls = RX9 ∧ yX9_rate.cls ≠ "java/lang/invoke/MethodHandle" ∧ yX9_rate.cls ≠ "java/lang/invoke/VarHandle" ∧ (parseMethodDescriptor yX9_rate.desc).map (fun d => d.parameters.length) = some 2 := by decide +kernel
theorem hin_X9_rate_X9 : ∀ w ∈ wsX90, w ∈ wsX9_rate := fun _ h => List.mem_cons_of_mem _ (List.mem_append_right _ h)
set_option maxRecDepth 100000 in
set_option maxHeartbeats 4000000 in
theorem k_X9_rate_122 {G : xG} {post : Int32 → xMem → Prop} (hG : xOk G cX9_rate RX9 wsX9_rate rm_X9_rate) (hQ : xRetI G post .int) : ∀ (M : xMem) (p1 : Int32) (p2 : Int32) (p3 : Int32) (p4 : Int32) (p5 : Int32) (s1 : Int64) (s2 : Int64), b_X9_rate_122 post M p1 p2 p3 p4 p5 s1 s2 → xW G M [some (.ref (xa G 81)), some (.int p1), some (.int p2), some (.int p3), some (.int p4), some (.int p5)] [.long s2, .long s1, .ref (xa G 81)] 122 := by
  intro M p1 p2 p3 p4 p5 s1 s2 h
  unfold b_X9_rate_122 at h
  refine x_ladd hG dX9_rate_122 ?_
  have h := h _ rfl
  refine x_put_9_1 hG dX9_rate_123 (rfl : kd 81 = 9) hin_X9_rate_X9 (List.mem_of_getElem? (i := 4) rfl) ?_
  refine x_iload_n hG dX9_rate_126 rfl rfl ?_
  refine x_if_ne (tgt := 134) hG dX9_rate_127 (by decide) (fun hc2 => ?_) (fun hc2 => ?_)
  · have h := h.1 hc2
    refine x_iload_n hG dX9_rate_134 rfl rfl ?_
    refine x_iconst (v := (1 : Int32)) hG dX9_rate_135 (by decide) ?_
    refine x_icmp_ne (tgt := 144) hG dX9_rate_136 (by decide) (fun hc3 => ?_) (fun hc3 => ?_)
    · have h := h.1 hc3
      refine x_iload_n hG dX9_rate_144 rfl rfl ?_
      refine x_iconst (v := (2 : Int32)) hG dX9_rate_145 (by decide) ?_
      refine x_icmp_ne (tgt := 154) hG dX9_rate_146 (by decide) (fun hc4 => ?_) (fun hc4 => ?_)
      · have h := h.1 hc4
        refine x_iload_n hG dX9_rate_154 rfl rfl ?_
        refine x_iconst (v := (3 : Int32)) hG dX9_rate_155 (by decide) ?_
        refine x_icmp_ne (tgt := 166) hG dX9_rate_156 (by decide) (fun hc5 => ?_) (fun hc5 => ?_)
        · have h := h.1 hc5
          refine x_iload_n hG dX9_rate_166 rfl rfl ?_
          refine x_iconst (v := (4 : Int32)) hG dX9_rate_167 (by decide) ?_
          refine x_icmp_ne (tgt := 181) hG dX9_rate_168 (by decide) (fun hc6 => ?_) (fun hc6 => ?_)
          · have h := h.1 hc6
            refine x_iload_n hG dX9_rate_181 rfl rfl ?_
            refine x_aload_n hG dX9_rate_182 rfl rfl ?_
            refine x_get_9_18 hG dX9_rate_183 (rfl : kd 81 = 9) hin_X9_rate_X9 (List.mem_of_getElem? (i := 3) rfl) ?_
            refine x_iconst (v := (4 : Int32)) hG dX9_rate_186 (by decide) ?_
            refine x_iload_n hG dX9_rate_187 rfl rfl ?_
            refine x_imul hG dX9_rate_188 ?_
            refine x_iconst (v := (2 : Int32)) hG dX9_rate_189 (by decide) ?_
            refine x_iadd hG dX9_rate_190 ?_
            obtain ⟨hi7, h⟩ := h
            refine x_iaload hG dX9_rate_191 (kf_9_18 (rfl : kd 81 = 9)).1 (x_inE (kf_9_18 (rfl : kd 81 = 9)).2 hi7) ?_
            refine x_iadd hG dX9_rate_192 ?_
            exact x_iret hG hQ dX9_rate_193 rfl h
          · have h := h.2 hc6
            refine x_iload hG dX9_rate_171 rfl ?_
            refine x_aload_n hG dX9_rate_173 rfl rfl ?_
            refine x_get_9_11 hG dX9_rate_174 (rfl : kd 81 = 9) hin_X9_rate_X9 (List.mem_of_getElem? (i := 10) rfl) ?_
            refine x_isub hG dX9_rate_177 ?_
            refine x_goto (tgt := 193) hG dX9_rate_178 (by decide) ?_
            exact x_iret hG hQ dX9_rate_193 rfl h
        · have h := h.2 hc5
          refine x_iconst (v := (2 : Int32)) hG dX9_rate_159 (by decide) ?_
          refine x_iload hG dX9_rate_160 rfl ?_
          refine x_imul hG dX9_rate_162 ?_
          refine x_goto (tgt := 193) hG dX9_rate_163 (by decide) ?_
          exact x_iret hG hQ dX9_rate_193 rfl h
      · have h := h.2 hc4
        refine x_iload hG dX9_rate_149 rfl ?_
        refine x_goto (tgt := 193) hG dX9_rate_151 (by decide) ?_
        exact x_iret hG hQ dX9_rate_193 rfl h
    · have h := h.2 hc3
      refine x_iload hG dX9_rate_139 rfl ?_
      refine x_goto (tgt := 193) hG dX9_rate_141 (by decide) ?_
      exact x_iret hG hQ dX9_rate_193 rfl h
  · have h := h.2 hc2
    refine x_iload_n hG dX9_rate_130 rfl rfl ?_
    refine x_goto (tgt := 193) hG dX9_rate_131 (by decide) ?_
    exact x_iret hG hQ dX9_rate_193 rfl h
set_option maxRecDepth 100000 in
set_option maxHeartbeats 4000000 in
theorem c_X9_rate {l : Launch} {a : Nat → Nat} {M : xMem} {p1 : Int32} {p2 : Int32} {post : Int32 → xMem → Prop} (ha : xInj a) (h : w_X9_rate M p1 p2 post) : ∀ D cs sz, xMetI l yX9_rate wsX9_rate rm_X9_rate D a cs sz M [.ref (a 81), .int p1, .int p2] post := by
  intro D cs sz
  unfold w_X9_rate at h
  refine x_metI (ty := .int) [some (.ref (a 81)), some (.int p1), some (.int p2), none, none, none] (by decide) rfl rfl (Nat.le_of_ble_eq_true rfl) rfl rfl ha D cs sz rfl (fun G e1 e2 hG hQ => ?_)
  subst e1
  subst e2
  refine x_aload_n hG dX9_rate_0 rfl rfl ?_
  refine x_iconst (v := (0 : Int32)) hG dX9_rate_1 (by decide) ?_
  have h := h _ rfl
  refine x_put_9_0 hG dX9_rate_2 (rfl : kd 81 = 9) hin_X9_rate_X9 (List.mem_of_getElem? (i := 1) rfl) ?_
  refine x_iload_n hG dX9_rate_5 rfl rfl ?_
  refine x_iconst (v := (0 : Int32)) hG dX9_rate_6 (by decide) ?_
  refine x_iconst (v := (5 : Int32)) hG dX9_rate_7 (by decide) ?_
  refine x_cSI3 hG dX9_rate_8 (fun ha => c_X9_in ha h) gX9_rate_X9_in rfl ⟨rfl, rfl⟩ hy_X9_in ⟨Nat.le_of_ble_eq_true rfl, Nat.le_of_ble_eq_true rfl⟩ (Nat.le_of_ble_eq_true rfl) (fun z2 M3 h => ?_)
  refine x_if_eq (tgt := 22) hG dX9_rate_11 (by decide) (fun hc4 => ?_) (fun hc4 => ?_)
  · have h := h.1 hc4
    refine x_ldc (v := (-1000000 : Int32)) hG dX9_rate_22 (List.mem_of_getElem? (i := 2) rfl) ?_
    exact x_iret hG hQ dX9_rate_24 rfl h
  · have h := h.2 hc4
    refine x_aload_n hG dX9_rate_14 rfl rfl ?_
    refine x_iload_n hG dX9_rate_15 rfl rfl ?_
    refine x_cVI1 hG dX9_rate_16 (fun ha => c_X9_isWorker ha h) gX9_rate_X9_isWorker rfl ⟨rfl, rfl⟩ hy_X9_isWorker ⟨Nat.le_of_ble_eq_true rfl, Nat.le_of_ble_eq_true rfl⟩ (kd_lt (rfl : kd 81 = 9) (by decide)) (fun _ => xc_9 (rfl : kd 81 = 9)) rfl (Nat.le_of_ble_eq_true rfl) (fun z5 M6 h => ?_)
    refine x_if_ne (tgt := 25) hG dX9_rate_19 (by decide) (fun hc7 => ?_) (fun hc7 => ?_)
    · have h := h.1 hc7
      refine x_aload_n hG dX9_rate_25 rfl rfl ?_
      refine x_get_9_18 hG dX9_rate_26 (rfl : kd 81 = 9) hin_X9_rate_X9 (List.mem_of_getElem? (i := 3) rfl) ?_
      refine x_iconst (v := (4 : Int32)) hG dX9_rate_29 (by decide) ?_
      refine x_iload_n hG dX9_rate_30 rfl rfl ?_
      refine x_imul hG dX9_rate_31 ?_
      refine x_iconst (v := (1 : Int32)) hG dX9_rate_32 (by decide) ?_
      refine x_iadd hG dX9_rate_33 ?_
      obtain ⟨hi8, h⟩ := h
      refine x_iaload hG dX9_rate_34 (kf_9_18 (rfl : kd 81 = 9)).1 (x_inE (kf_9_18 (rfl : kd 81 = 9)).2 hi8) ?_
      have h := h _ rfl
      refine x_istore_n hG dX9_rate_35 rfl (Nat.le_of_ble_eq_true rfl) rfl ?_
      refine x_iload_n hG dX9_rate_36 rfl rfl ?_
      refine x_aload_n hG dX9_rate_37 rfl rfl ?_
      refine x_get_9_18 hG dX9_rate_38 (rfl : kd 81 = 9) hin_X9_rate_X9 (List.mem_of_getElem? (i := 3) rfl) ?_
      refine x_iconst (v := (4 : Int32)) hG dX9_rate_41 (by decide) ?_
      refine x_iload_n hG dX9_rate_42 rfl rfl ?_
      refine x_imul hG dX9_rate_43 ?_
      refine x_iconst (v := (3 : Int32)) hG dX9_rate_44 (by decide) ?_
      refine x_iadd hG dX9_rate_45 ?_
      obtain ⟨hi10, h⟩ := h
      refine x_iaload hG dX9_rate_46 (kf_9_18 (rfl : kd 81 = 9)).1 (x_inE (kf_9_18 (rfl : kd 81 = 9)).2 hi10) ?_
      refine x_iadd hG dX9_rate_47 ?_
      have h := h _ rfl
      refine x_istore hG dX9_rate_48 (Nat.le_of_ble_eq_true rfl) rfl ?_
      refine x_iload_n hG dX9_rate_50 rfl rfl ?_
      refine x_aload_n hG dX9_rate_51 rfl rfl ?_
      refine x_get_9_18 hG dX9_rate_52 (rfl : kd 81 = 9) hin_X9_rate_X9 (List.mem_of_getElem? (i := 3) rfl) ?_
      refine x_iconst (v := (4 : Int32)) hG dX9_rate_55 (by decide) ?_
      refine x_iload_n hG dX9_rate_56 rfl rfl ?_
      refine x_imul hG dX9_rate_57 ?_
      obtain ⟨hi12, h⟩ := h
      refine x_iaload hG dX9_rate_58 (kf_9_18 (rfl : kd 81 = 9)).1 (x_inE (kf_9_18 (rfl : kd 81 = 9)).2 hi12) ?_
      refine x_iadd hG dX9_rate_59 ?_
      have h := h _ rfl
      refine x_istore hG dX9_rate_60 (Nat.le_of_ble_eq_true rfl) rfl ?_
      refine x_aload_n hG dX9_rate_62 rfl rfl ?_
      refine x_dup hG dX9_rate_63 rfl ?_
      refine x_get_9_1 hG dX9_rate_64 (rfl : kd 81 = 9) hin_X9_rate_X9 (List.mem_of_getElem? (i := 4) rfl) ?_
      refine x_iload_n hG dX9_rate_67 rfl rfl ?_
      refine x_if_ne (tgt := 75) hG dX9_rate_68 (by decide) (fun hc14 => ?_) (fun hc14 => ?_)
      · have h := h.1 hc14
        refine x_iload_n hG dX9_rate_75 rfl rfl ?_
        refine x_iconst (v := (1 : Int32)) hG dX9_rate_76 (by decide) ?_
        refine x_icmp_ne (tgt := 86) hG dX9_rate_77 (by decide) (fun hc15 => ?_) (fun hc15 => ?_)
        · have h := h.1 hc15
          refine x_iload_n hG dX9_rate_86 rfl rfl ?_
          refine x_iconst (v := (2 : Int32)) hG dX9_rate_87 (by decide) ?_
          refine x_icmp_ne (tgt := 97) hG dX9_rate_88 (by decide) (fun hc16 => ?_) (fun hc16 => ?_)
          · have h := h.1 hc16
            refine x_iload_n hG dX9_rate_97 rfl rfl ?_
            refine x_iconst (v := (3 : Int32)) hG dX9_rate_98 (by decide) ?_
            refine x_icmp_ne (tgt := 108) hG dX9_rate_99 (by decide) (fun hc17 => ?_) (fun hc17 => ?_)
            · have h := h.1 hc17
              refine x_iload_n hG dX9_rate_108 rfl rfl ?_
              refine x_iconst (v := (4 : Int32)) hG dX9_rate_109 (by decide) ?_
              refine x_icmp_ne (tgt := 119) hG dX9_rate_110 (by decide) (fun hc18 => ?_) (fun hc18 => ?_)
              · have h := h.1 hc18
                refine x_ldc2 (v := (100001 : Int64)) hG dX9_rate_119 (List.mem_of_getElem? (i := 9) rfl) ?_
                refine x_keep [true, true, true, true, true, true] rfl ?_
                exact k_X9_rate_122 hG hQ _ _ _ _ _ _ _ _ h
              · have h := h.2 hc18
                refine x_ldc2 (v := (10011 : Int64)) hG dX9_rate_113 (List.mem_of_getElem? (i := 8) rfl) ?_
                refine x_goto (tgt := 122) hG dX9_rate_116 (by decide) ?_
                refine x_keep [true, true, true, true, true, true] rfl ?_
                exact k_X9_rate_122 hG hQ _ _ _ _ _ _ _ _ h
            · have h := h.2 hc17
              refine x_ldc2 (v := (1101 : Int64)) hG dX9_rate_102 (List.mem_of_getElem? (i := 7) rfl) ?_
              refine x_goto (tgt := 122) hG dX9_rate_105 (by decide) ?_
              refine x_keep [true, true, true, true, true, true] rfl ?_
              exact k_X9_rate_122 hG hQ _ _ _ _ _ _ _ _ h
          · have h := h.2 hc16
            refine x_ldc2 (v := (101 : Int64)) hG dX9_rate_91 (List.mem_of_getElem? (i := 6) rfl) ?_
            refine x_goto (tgt := 122) hG dX9_rate_94 (by decide) ?_
            refine x_keep [true, true, true, true, true, true] rfl ?_
            exact k_X9_rate_122 hG hQ _ _ _ _ _ _ _ _ h
        · have h := h.2 hc15
          refine x_ldc2 (v := (11 : Int64)) hG dX9_rate_80 (List.mem_of_getElem? (i := 5) rfl) ?_
          refine x_goto (tgt := 122) hG dX9_rate_83 (by decide) ?_
          refine x_keep [true, true, true, true, true, true] rfl ?_
          exact k_X9_rate_122 hG hQ _ _ _ _ _ _ _ _ h
      · have h := h.2 hc14
        refine x_lconst (v := (1 : Int64)) hG dX9_rate_71 (by decide) ?_
        refine x_goto (tgt := 122) hG dX9_rate_72 (by decide) ?_
        refine x_keep [true, true, true, true, true, true] rfl ?_
        exact k_X9_rate_122 hG hQ _ _ _ _ _ _ _ _ h
    · have h := h.2 hc7
      refine x_ldc (v := (-1000000 : Int32)) hG dX9_rate_22 (List.mem_of_getElem? (i := 2) rfl) ?_
      exact x_iret hG hQ dX9_rate_24 rfl h
abbrev rm_X9_keep : Room := { frames := 1, cells := 0, slots := 0, locals := 22 }
theorem hy_X9_keep : yX9_keep.cls = RX9 ∧ yX9_keep.cls ≠ "java/lang/invoke/MethodHandle" ∧ yX9_keep.cls ≠ "java/lang/invoke/VarHandle" ∧ (parseMethodDescriptor yX9_keep.desc).map (fun d => d.parameters.length) = some 1 := by decide +kernel
theorem hin_X9_keep_X9 : ∀ w ∈ wsX90, w ∈ wsX9_keep := fun _ h => List.mem_cons_of_mem _ (List.mem_append_right _ h)
set_option maxRecDepth 100000 in
set_option maxHeartbeats 4000000 in
theorem k_X9_keep_18 {G : xG} {post : Int32 → xMem → Prop} (hG : xOk G cX9_keep RX9 wsX9_keep rm_X9_keep) (hQ : xRetI G post .int) : ∀ (M : xMem) (p1 : Int32) (p2 : Int32), xlp3 (b_X9_keep_18 post) M p1 p2 → xW G M [some (.ref (xa G 81)), some (.int p1), some (.int p2)] [] 18 := by
  refine xlp3_W (W := fun M p1 p2 => xW G M [some (.ref (xa G 81)), some (.int p1), some (.int p2)] [] 18) (fun r18 hr18 => ?_)
  intro M p1 p2 h
  unfold b_X9_keep_18 at h
  refine x_iload_n hG dX9_keep_18 rfl rfl ?_
  refine x_sipush (v := (207 : Int32)) hG dX9_keep_19 (by decide) ?_
  refine x_icmp_ge (tgt := 49) hG dX9_keep_22 (by decide) (fun hc1 => ?_) (fun hc1 => ?_)
  · have h := h.1 hc1
    refine x_aload_n hG dX9_keep_49 rfl rfl ?_
    refine x_get_9_17 hG dX9_keep_50 (rfl : kd 81 = 9) hin_X9_keep_X9 (List.mem_of_getElem? (i := 4) rfl) ?_
    refine x_iload_n hG dX9_keep_53 rfl rfl ?_
    refine x_iconst (v := (1 : Int32)) hG dX9_keep_54 (by decide) ?_
    obtain ⟨hi2, h⟩ := h
    have h := h _ rfl
    refine x_zastore hG dX9_keep_55 (kf_9_17 (rfl : kd 81 = 9)).1 (x_inE (kf_9_17 (rfl : kd 81 = 9)).2 hi2) (x_nbz (by decide)) ?_
    refine x_aload_n hG dX9_keep_56 rfl rfl ?_
    refine x_get_9_14 hG dX9_keep_57 (rfl : kd 81 = 9) hin_X9_keep_X9 (List.mem_of_getElem? (i := 3) rfl) ?_
    refine x_sipush (v := (194 : Int32)) hG dX9_keep_60 (by decide) ?_
    refine x_iaload hG dX9_keep_63 (kf_9_14 (rfl : kd 81 = 9)).1 (x_inE (kf_9_14 (rfl : kd 81 = 9)).2 (x_inC (by decide))) ?_
    exact x_iret hG hQ dX9_keep_64 rfl h
  · have h := h.2 hc1
    refine x_aload_n hG dX9_keep_25 rfl rfl ?_
    refine x_get_9_16 hG dX9_keep_26 (rfl : kd 81 = 9) hin_X9_keep_X9 (List.mem_of_getElem? (i := 2) rfl) ?_
    refine x_sipush (v := (207 : Int32)) hG dX9_keep_29 (by decide) ?_
    refine x_iload_n hG dX9_keep_32 rfl rfl ?_
    refine x_imul hG dX9_keep_33 ?_
    refine x_iload_n hG dX9_keep_34 rfl rfl ?_
    refine x_iadd hG dX9_keep_35 ?_
    refine x_aload_n hG dX9_keep_36 rfl rfl ?_
    refine x_get_9_14 hG dX9_keep_37 (rfl : kd 81 = 9) hin_X9_keep_X9 (List.mem_of_getElem? (i := 3) rfl) ?_
    refine x_iload_n hG dX9_keep_40 rfl rfl ?_
    obtain ⟨hi4, h⟩ := h
    refine x_iaload hG dX9_keep_41 (kf_9_14 (rfl : kd 81 = 9)).1 (x_inE (kf_9_14 (rfl : kd 81 = 9)).2 hi4) ?_
    obtain ⟨hi5, h⟩ := h
    have h := h _ rfl
    refine x_iastore hG dX9_keep_42 (kf_9_16 (rfl : kd 81 = 9)).1 (x_inE (kf_9_16 (rfl : kd 81 = 9)).2 hi5) ?_
    refine x_iinc (v := _) hG dX9_keep_43 rfl (x_iincE (k := 1) (by decide)) (Nat.le_of_ble_eq_true rfl) rfl ?_
    refine x_goto (tgt := 18) hG dX9_keep_46 (by decide) ?_
    refine x_keep [true, true, true] rfl ?_
    exact hr18 _ _ _ h
set_option maxRecDepth 100000 in
set_option maxHeartbeats 4000000 in
theorem c_X9_keep {l : Launch} {a : Nat → Nat} {M : xMem} {p1 : Int32} {post : Int32 → xMem → Prop} (ha : xInj a) (h : w_X9_keep M p1 post) : ∀ D cs sz, xMetI l yX9_keep wsX9_keep rm_X9_keep D a cs sz M [.ref (a 81), .int p1] post := by
  intro D cs sz
  unfold w_X9_keep at h
  refine x_metI (ty := .int) [some (.ref (a 81)), some (.int p1), none] (by decide) rfl rfl (Nat.le_of_ble_eq_true rfl) rfl rfl ha D cs sz rfl (fun G e1 e2 hG hQ => ?_)
  subst e1
  subst e2
  refine x_aload_n hG dX9_keep_0 rfl rfl ?_
  refine x_iconst (v := (0 : Int32)) hG dX9_keep_1 (by decide) ?_
  have h := h _ rfl
  refine x_put_9_0 hG dX9_keep_2 (rfl : kd 81 = 9) hin_X9_keep_X9 (List.mem_of_getElem? (i := 1) rfl) ?_
  refine x_iload_n hG dX9_keep_5 rfl rfl ?_
  refine x_iconst (v := (0 : Int32)) hG dX9_keep_6 (by decide) ?_
  refine x_iconst (v := (1 : Int32)) hG dX9_keep_7 (by decide) ?_
  refine x_cSI3 hG dX9_keep_8 (fun ha => c_X9_in ha h) gX9_keep_X9_in rfl ⟨rfl, rfl⟩ hy_X9_in ⟨Nat.le_of_ble_eq_true rfl, Nat.le_of_ble_eq_true rfl⟩ (Nat.le_of_ble_eq_true rfl) (fun z2 M3 h => ?_)
  refine x_if_ne (tgt := 16) hG dX9_keep_11 (by decide) (fun hc4 => ?_) (fun hc4 => ?_)
  · have h := h.1 hc4
    refine x_iconst (v := (0 : Int32)) hG dX9_keep_16 (by decide) ?_
    refine x_istore_n hG dX9_keep_17 rfl (Nat.le_of_ble_eq_true rfl) rfl ?_
    refine x_keep [true, true, true] rfl ?_
    exact k_X9_keep_18 hG hQ _ _ _ h
  · have h := h.2 hc4
    refine x_iconst (v := (-1 : Int32)) hG dX9_keep_14 (by decide) ?_
    exact x_iret hG hQ dX9_keep_15 rfl h
abbrev rm_X9_back : Room := { frames := 1, cells := 0, slots := 0, locals := 22 }
theorem hy_X9_back : yX9_back.cls = RX9 ∧ yX9_back.cls ≠ "java/lang/invoke/MethodHandle" ∧ yX9_back.cls ≠ "java/lang/invoke/VarHandle" ∧ (parseMethodDescriptor yX9_back.desc).map (fun d => d.parameters.length) = some 1 := by decide +kernel
theorem hin_X9_back_X9 : ∀ w ∈ wsX90, w ∈ wsX9_back := fun _ h => List.mem_cons_of_mem _ (List.mem_append_right _ h)
set_option maxRecDepth 100000 in
set_option maxHeartbeats 4000000 in
theorem k_X9_back_30 {G : xG} {post : Int32 → xMem → Prop} (hG : xOk G cX9_back RX9 wsX9_back rm_X9_back) (hQ : xRetI G post .int) : ∀ (M : xMem) (p1 : Int32) (p2 : Int32), xlp3 (b_X9_back_30 post) M p1 p2 → xW G M [some (.ref (xa G 81)), some (.int p1), some (.int p2)] [] 30 := by
  refine xlp3_W (W := fun M p1 p2 => xW G M [some (.ref (xa G 81)), some (.int p1), some (.int p2)] [] 30) (fun r30 hr30 => ?_)
  intro M p1 p2 h
  unfold b_X9_back_30 at h
  refine x_iload_n hG dX9_back_30 rfl rfl ?_
  refine x_sipush (v := (207 : Int32)) hG dX9_back_31 (by decide) ?_
  refine x_icmp_ge (tgt := 61) hG dX9_back_34 (by decide) (fun hc1 => ?_) (fun hc1 => ?_)
  · have h := h.1 hc1
    refine x_aload_n hG dX9_back_61 rfl rfl ?_
    refine x_get_9_14 hG dX9_back_62 (rfl : kd 81 = 9) hin_X9_back_X9 (List.mem_of_getElem? (i := 3) rfl) ?_
    refine x_sipush (v := (194 : Int32)) hG dX9_back_65 (by decide) ?_
    refine x_iaload hG dX9_back_68 (kf_9_14 (rfl : kd 81 = 9)).1 (x_inE (kf_9_14 (rfl : kd 81 = 9)).2 (x_inC (by decide))) ?_
    exact x_iret hG hQ dX9_back_69 rfl h
  · have h := h.2 hc1
    refine x_aload_n hG dX9_back_37 rfl rfl ?_
    refine x_get_9_14 hG dX9_back_38 (rfl : kd 81 = 9) hin_X9_back_X9 (List.mem_of_getElem? (i := 3) rfl) ?_
    refine x_iload_n hG dX9_back_41 rfl rfl ?_
    refine x_aload_n hG dX9_back_42 rfl rfl ?_
    refine x_get_9_16 hG dX9_back_43 (rfl : kd 81 = 9) hin_X9_back_X9 (List.mem_of_getElem? (i := 4) rfl) ?_
    refine x_sipush (v := (207 : Int32)) hG dX9_back_46 (by decide) ?_
    refine x_iload_n hG dX9_back_49 rfl rfl ?_
    refine x_imul hG dX9_back_50 ?_
    refine x_iload_n hG dX9_back_51 rfl rfl ?_
    refine x_iadd hG dX9_back_52 ?_
    obtain ⟨hi2, h⟩ := h
    refine x_iaload hG dX9_back_53 (kf_9_16 (rfl : kd 81 = 9)).1 (x_inE (kf_9_16 (rfl : kd 81 = 9)).2 hi2) ?_
    obtain ⟨hi3, h⟩ := h
    have h := h _ rfl
    refine x_iastore hG dX9_back_54 (kf_9_14 (rfl : kd 81 = 9)).1 (x_inE (kf_9_14 (rfl : kd 81 = 9)).2 hi3) ?_
    refine x_iinc (v := _) hG dX9_back_55 rfl (x_iincE (k := 1) (by decide)) (Nat.le_of_ble_eq_true rfl) rfl ?_
    refine x_goto (tgt := 30) hG dX9_back_58 (by decide) ?_
    refine x_keep [true, true, true] rfl ?_
    exact hr30 _ _ _ h
set_option maxRecDepth 100000 in
set_option maxHeartbeats 4000000 in
theorem c_X9_back {l : Launch} {a : Nat → Nat} {M : xMem} {p1 : Int32} {post : Int32 → xMem → Prop} (ha : xInj a) (h : w_X9_back M p1 post) : ∀ D cs sz, xMetI l yX9_back wsX9_back rm_X9_back D a cs sz M [.ref (a 81), .int p1] post := by
  intro D cs sz
  unfold w_X9_back at h
  refine x_metI (ty := .int) [some (.ref (a 81)), some (.int p1), none] (by decide) rfl rfl (Nat.le_of_ble_eq_true rfl) rfl rfl ha D cs sz rfl (fun G e1 e2 hG hQ => ?_)
  subst e1
  subst e2
  refine x_aload_n hG dX9_back_0 rfl rfl ?_
  refine x_iconst (v := (0 : Int32)) hG dX9_back_1 (by decide) ?_
  have h := h _ rfl
  refine x_put_9_0 hG dX9_back_2 (rfl : kd 81 = 9) hin_X9_back_X9 (List.mem_of_getElem? (i := 1) rfl) ?_
  refine x_iload_n hG dX9_back_5 rfl rfl ?_
  refine x_iconst (v := (0 : Int32)) hG dX9_back_6 (by decide) ?_
  refine x_iconst (v := (1 : Int32)) hG dX9_back_7 (by decide) ?_
  refine x_cSI3 hG dX9_back_8 (fun ha => c_X9_in ha h) gX9_back_X9_in rfl ⟨rfl, rfl⟩ hy_X9_in ⟨Nat.le_of_ble_eq_true rfl, Nat.le_of_ble_eq_true rfl⟩ (Nat.le_of_ble_eq_true rfl) (fun z2 M3 h => ?_)
  refine x_if_ne (tgt := 16) hG dX9_back_11 (by decide) (fun hc4 => ?_) (fun hc4 => ?_)
  · have h := h.1 hc4
    refine x_aload_n hG dX9_back_16 rfl rfl ?_
    refine x_get_9_17 hG dX9_back_17 (rfl : kd 81 = 9) hin_X9_back_X9 (List.mem_of_getElem? (i := 2) rfl) ?_
    refine x_iload_n hG dX9_back_20 rfl rfl ?_
    obtain ⟨hi5, h⟩ := h
    refine x_zaload hG dX9_back_21 (kf_9_17 (rfl : kd 81 = 9)).1 (x_inE (kf_9_17 (rfl : kd 81 = 9)).2 hi5) ?_
    refine x_if_ne (tgt := 28) hG dX9_back_22 (by decide) (fun hc6 => ?_) (fun hc6 => ?_)
    · have h := h.1 hc6
      refine x_iconst (v := (0 : Int32)) hG dX9_back_28 (by decide) ?_
      refine x_istore_n hG dX9_back_29 rfl (Nat.le_of_ble_eq_true rfl) rfl ?_
      refine x_keep [true, true, true] rfl ?_
      exact k_X9_back_30 hG hQ _ _ _ h
    · have h := h.2 hc6
      refine x_bipush (v := (-2 : Int32)) hG dX9_back_25 (by decide) ?_
      exact x_iret hG hQ dX9_back_27 rfl h
  · have h := h.2 hc4
    refine x_iconst (v := (-1 : Int32)) hG dX9_back_14 (by decide) ?_
    exact x_iret hG hQ dX9_back_15 rfl h
abbrev rm_X9_count : Room := { frames := 1, cells := 0, slots := 0, locals := 22 }
theorem hy_X9_count : yX9_count.cls = RX9 ∧ yX9_count.cls ≠ "java/lang/invoke/MethodHandle" ∧ yX9_count.cls ≠ "java/lang/invoke/VarHandle" ∧ (parseMethodDescriptor yX9_count.desc).map (fun d => d.parameters.length) = some 1 := by decide +kernel
theorem hin_X9_count_X9 : ∀ w ∈ wsX90, w ∈ wsX9_count := fun _ h => List.mem_cons_of_mem _ (List.mem_append_right _ h)
set_option maxRecDepth 100000 in
set_option maxHeartbeats 4000000 in
theorem k_X9_count_52 {G : xG} {post : Int32 → xMem → Prop} (hG : xOk G cX9_count RX9 wsX9_count rm_X9_count) (hQ : xRetI G post .int) {r9 : xMem → Int32 → Int32 → Int32 → Prop} (hr9 : ∀ (M : xMem) (p1 : Int32) (p2 : Int32) (p3 : Int32), r9 M p1 p2 p3 → xW G M [some (.ref (xa G 81)), some (.int p1), some (.int p2), some (.int p3)] [] 9) : ∀ (M : xMem) (p1 : Int32) (p3 : Int32) (s0 : Int32) (s1 : Int32), b_X9_count_52 post r9 M p1 p3 s0 s1 → xW G M [some (.ref (xa G 81)), some (.int p1), none, some (.int p3)] [.int s1, .int s0] 52 := by
  intro M p1 p3 s0 s1 h
  unfold b_X9_count_52 at h
  refine x_iadd hG dX9_count_52 ?_
  refine x_istore_n hG dX9_count_53 rfl (Nat.le_of_ble_eq_true rfl) rfl ?_
  refine x_iinc (v := _) hG dX9_count_54 rfl (x_iincE (k := 1) (by decide)) (Nat.le_of_ble_eq_true rfl) rfl ?_
  refine x_goto (tgt := 9) hG dX9_count_57 (by decide) ?_
  refine x_keep [true, true, true, true] rfl ?_
  exact hr9 _ _ _ _ h
set_option maxRecDepth 100000 in
set_option maxHeartbeats 4000000 in
theorem k_X9_count_9 {G : xG} {post : Int32 → xMem → Prop} (hG : xOk G cX9_count RX9 wsX9_count rm_X9_count) (hQ : xRetI G post .int) : ∀ (M : xMem) (p1 : Int32) (p2 : Int32) (p3 : Int32), xlp4 (b_X9_count_9 post) M p1 p2 p3 → xW G M [some (.ref (xa G 81)), some (.int p1), some (.int p2), some (.int p3)] [] 9 := by
  refine xlp4_W (W := fun M p1 p2 p3 => xW G M [some (.ref (xa G 81)), some (.int p1), some (.int p2), some (.int p3)] [] 9) (fun r9 hr9 => ?_)
  intro M p1 p2 p3 h
  unfold b_X9_count_9 at h
  refine x_iload_n hG dX9_count_9 rfl rfl ?_
  refine x_bipush (v := (96 : Int32)) hG dX9_count_10 (by decide) ?_
  refine x_icmp_ge (tgt := 60) hG dX9_count_12 (by decide) (fun hc1 => ?_) (fun hc1 => ?_)
  · have h := h.1 hc1
    refine x_iload_n hG dX9_count_60 rfl rfl ?_
    refine x_if_ne (tgt := 71) hG dX9_count_61 (by decide) (fun hc2 => ?_) (fun hc2 => ?_)
    · have h := h.1 hc2
      refine x_iload_n hG dX9_count_71 rfl rfl ?_
      refine x_iconst (v := (1 : Int32)) hG dX9_count_72 (by decide) ?_
      refine x_icmp_ne (tgt := 83) hG dX9_count_73 (by decide) (fun hc3 => ?_) (fun hc3 => ?_)
      · have h := h.1 hc3
        refine x_iload_n hG dX9_count_83 rfl rfl ?_
        refine x_iconst (v := (2 : Int32)) hG dX9_count_84 (by decide) ?_
        refine x_icmp_ne (tgt := 95) hG dX9_count_85 (by decide) (fun hc4 => ?_) (fun hc4 => ?_)
        · have h := h.1 hc4
          refine x_iload_n hG dX9_count_95 rfl rfl ?_
          refine x_iconst (v := (3 : Int32)) hG dX9_count_96 (by decide) ?_
          refine x_icmp_ne (tgt := 107) hG dX9_count_97 (by decide) (fun hc5 => ?_) (fun hc5 => ?_)
          · have h := h.1 hc5
            refine x_iload_n hG dX9_count_107 rfl rfl ?_
            refine x_iconst (v := (4 : Int32)) hG dX9_count_108 (by decide) ?_
            refine x_icmp_ne (tgt := 123) hG dX9_count_109 (by decide) (fun hc6 => ?_) (fun hc6 => ?_)
            · have h := h.1 hc6
              refine x_iload_n hG dX9_count_123 rfl rfl ?_
              refine x_iconst (v := (5 : Int32)) hG dX9_count_124 (by decide) ?_
              refine x_icmp_ne (tgt := 135) hG dX9_count_125 (by decide) (fun hc7 => ?_) (fun hc7 => ?_)
              · have h := h.1 hc7
                refine x_iload_n hG dX9_count_135 rfl rfl ?_
                refine x_bipush (v := (6 : Int32)) hG dX9_count_136 (by decide) ?_
                refine x_bipush (v := (7 : Int32)) hG dX9_count_138 (by decide) ?_
                refine x_cSI3 hG dX9_count_140 (fun ha => c_X9_in ha h) gX9_count_X9_in rfl ⟨rfl, rfl⟩ hy_X9_in ⟨Nat.le_of_ble_eq_true rfl, Nat.le_of_ble_eq_true rfl⟩ (Nat.le_of_ble_eq_true rfl) (fun z8 M9 h => ?_)
                refine x_if_eq (tgt := 150) hG dX9_count_143 (by decide) (fun hc10 => ?_) (fun hc10 => ?_)
                · have h := h.1 hc10
                  refine x_iconst (v := (-1 : Int32)) hG dX9_count_150 (by decide) ?_
                  exact x_iret hG hQ dX9_count_151 rfl h
                · have h := h.2 hc10
                  refine x_iload_n hG dX9_count_146 rfl rfl ?_
                  refine x_goto (tgt := 151) hG dX9_count_147 (by decide) ?_
                  exact x_iret hG hQ dX9_count_151 rfl h
              · have h := h.2 hc7
                refine x_aload_n hG dX9_count_128 rfl rfl ?_
                refine x_get_9_3 hG dX9_count_129 (rfl : kd 81 = 9) hin_X9_count_X9 (List.mem_of_getElem? (i := 7) rfl) ?_
                refine x_goto (tgt := 151) hG dX9_count_132 (by decide) ?_
                exact x_iret hG hQ dX9_count_151 rfl h
            · have h := h.2 hc6
              refine x_aload_n hG dX9_count_112 rfl rfl ?_
              refine x_get_9_14 hG dX9_count_113 (rfl : kd 81 = 9) hin_X9_count_X9 (List.mem_of_getElem? (i := 2) rfl) ?_
              refine x_sipush (v := (194 : Int32)) hG dX9_count_116 (by decide) ?_
              refine x_iaload hG dX9_count_119 (kf_9_14 (rfl : kd 81 = 9)).1 (x_inE (kf_9_14 (rfl : kd 81 = 9)).2 (x_inC (by decide))) ?_
              refine x_goto (tgt := 151) hG dX9_count_120 (by decide) ?_
              exact x_iret hG hQ dX9_count_151 rfl h
          · have h := h.2 hc5
            refine x_aload_n hG dX9_count_100 rfl rfl ?_
            refine x_get_9_21 hG dX9_count_101 (rfl : kd 81 = 9) hin_X9_count_X9 (List.mem_of_getElem? (i := 6) rfl) ?_
            refine x_goto (tgt := 151) hG dX9_count_104 (by decide) ?_
            exact x_iret hG hQ dX9_count_151 rfl h
        · have h := h.2 hc4
          refine x_aload_n hG dX9_count_88 rfl rfl ?_
          refine x_get_9_20 hG dX9_count_89 (rfl : kd 81 = 9) hin_X9_count_X9 (List.mem_of_getElem? (i := 5) rfl) ?_
          refine x_goto (tgt := 151) hG dX9_count_92 (by decide) ?_
          exact x_iret hG hQ dX9_count_151 rfl h
      · have h := h.2 hc3
        refine x_aload_n hG dX9_count_76 rfl rfl ?_
        refine x_get_9_10 hG dX9_count_77 (rfl : kd 81 = 9) hin_X9_count_X9 (List.mem_of_getElem? (i := 4) rfl) ?_
        refine x_goto (tgt := 151) hG dX9_count_80 (by decide) ?_
        exact x_iret hG hQ dX9_count_151 rfl h
    · have h := h.2 hc2
      refine x_aload_n hG dX9_count_64 rfl rfl ?_
      refine x_get_9_9 hG dX9_count_65 (rfl : kd 81 = 9) hin_X9_count_X9 (List.mem_of_getElem? (i := 3) rfl) ?_
      refine x_goto (tgt := 151) hG dX9_count_68 (by decide) ?_
      exact x_iret hG hQ dX9_count_151 rfl h
  · have h := h.2 hc1
    refine x_iload_n hG dX9_count_15 rfl rfl ?_
    refine x_iload_n hG dX9_count_16 rfl rfl ?_
    refine x_bipush (v := (6 : Int32)) hG dX9_count_17 (by decide) ?_
    refine x_icmp_ne (tgt := 33) hG dX9_count_19 (by decide) (fun hc11 => ?_) (fun hc11 => ?_)
    · have h := h.1 hc11
      refine x_iload_n hG dX9_count_33 rfl rfl ?_
      refine x_bipush (v := (7 : Int32)) hG dX9_count_34 (by decide) ?_
      refine x_icmp_ne (tgt := 51) hG dX9_count_36 (by decide) (fun hc12 => ?_) (fun hc12 => ?_)
      · have h := h.1 hc12
        refine x_iconst (v := (0 : Int32)) hG dX9_count_51 (by decide) ?_
        refine x_keep [true, true, false, true] rfl ?_
        exact k_X9_count_52 hG hQ hr9 _ _ _ _ _ h
      · have h := h.2 hc12
        refine x_aload_n hG dX9_count_39 rfl rfl ?_
        refine x_get_9_14 hG dX9_count_40 (rfl : kd 81 = 9) hin_X9_count_X9 (List.mem_of_getElem? (i := 2) rfl) ?_
        refine x_bipush (v := (96 : Int32)) hG dX9_count_43 (by decide) ?_
        refine x_iload_n hG dX9_count_45 rfl rfl ?_
        refine x_iadd hG dX9_count_46 ?_
        obtain ⟨hi13, h⟩ := h
        refine x_iaload hG dX9_count_47 (kf_9_14 (rfl : kd 81 = 9)).1 (x_inE (kf_9_14 (rfl : kd 81 = 9)).2 hi13) ?_
        refine x_goto (tgt := 52) hG dX9_count_48 (by decide) ?_
        refine x_keep [true, true, false, true] rfl ?_
        exact k_X9_count_52 hG hQ hr9 _ _ _ _ _ h
    · have h := h.2 hc11
      refine x_aload_n hG dX9_count_22 rfl rfl ?_
      refine x_get_9_14 hG dX9_count_23 (rfl : kd 81 = 9) hin_X9_count_X9 (List.mem_of_getElem? (i := 2) rfl) ?_
      refine x_iconst (v := (0 : Int32)) hG dX9_count_26 (by decide) ?_
      refine x_iload_n hG dX9_count_27 rfl rfl ?_
      refine x_iadd hG dX9_count_28 ?_
      obtain ⟨hi14, h⟩ := h
      refine x_iaload hG dX9_count_29 (kf_9_14 (rfl : kd 81 = 9)).1 (x_inE (kf_9_14 (rfl : kd 81 = 9)).2 hi14) ?_
      refine x_goto (tgt := 52) hG dX9_count_30 (by decide) ?_
      refine x_keep [true, true, false, true] rfl ?_
      exact k_X9_count_52 hG hQ hr9 _ _ _ _ _ h
set_option maxRecDepth 100000 in
set_option maxHeartbeats 4000000 in
theorem c_X9_count {l : Launch} {a : Nat → Nat} {M : xMem} {p1 : Int32} {post : Int32 → xMem → Prop} (ha : xInj a) (h : w_X9_count M p1 post) : ∀ D cs sz, xMetI l yX9_count wsX9_count rm_X9_count D a cs sz M [.ref (a 81), .int p1] post := by
  intro D cs sz
  unfold w_X9_count at h
  refine x_metI (ty := .int) [some (.ref (a 81)), some (.int p1), none, none] (by decide) rfl rfl (Nat.le_of_ble_eq_true rfl) rfl rfl ha D cs sz rfl (fun G e1 e2 hG hQ => ?_)
  subst e1
  subst e2
  refine x_aload_n hG dX9_count_0 rfl rfl ?_
  refine x_iconst (v := (0 : Int32)) hG dX9_count_1 (by decide) ?_
  have h := h _ rfl
  refine x_put_9_0 hG dX9_count_2 (rfl : kd 81 = 9) hin_X9_count_X9 (List.mem_of_getElem? (i := 1) rfl) ?_
  refine x_iconst (v := (0 : Int32)) hG dX9_count_5 (by decide) ?_
  refine x_istore_n hG dX9_count_6 rfl (Nat.le_of_ble_eq_true rfl) rfl ?_
  refine x_iconst (v := (0 : Int32)) hG dX9_count_7 (by decide) ?_
  refine x_istore_n hG dX9_count_8 rfl (Nat.le_of_ble_eq_true rfl) rfl ?_
  refine x_keep [true, true, true, true] rfl ?_
  exact k_X9_count_9 hG hQ _ _ _ _ h
abbrev rm_X9_trace : Room := { frames := 0, cells := 0, slots := 0, locals := 0 }
theorem hy_X9_trace : yX9_trace.cls = RX9 ∧ yX9_trace.cls ≠ "java/lang/invoke/MethodHandle" ∧ yX9_trace.cls ≠ "java/lang/invoke/VarHandle" ∧ (parseMethodDescriptor yX9_trace.desc).map (fun d => d.parameters.length) = some 0 := by decide +kernel
theorem hin_X9_trace_X9 : ∀ w ∈ wsX90, w ∈ wsX9_trace := fun _ h => List.mem_cons_of_mem _ (List.mem_append_right _ h)
set_option maxRecDepth 100000 in
set_option maxHeartbeats 4000000 in
theorem c_X9_trace {l : Launch} {a : Nat → Nat} {M : xMem} {post : Int64 → xMem → Prop} (ha : xInj a) (h : w_X9_trace M post) : ∀ D cs sz, xMetL l yX9_trace wsX9_trace rm_X9_trace D a cs sz M [.ref (a 81)] post := by
  intro D cs sz
  unfold w_X9_trace at h
  refine x_metL [some (.ref (a 81))] (by decide) rfl rfl (Nat.le_of_ble_eq_true rfl) rfl rfl ha D cs sz rfl (fun G e1 e2 hG hQ => ?_)
  subst e1
  subst e2
  refine x_aload_n hG dX9_trace_0 rfl rfl ?_
  refine x_iconst (v := (0 : Int32)) hG dX9_trace_1 (by decide) ?_
  have h := h _ rfl
  refine x_put_9_0 hG dX9_trace_2 (rfl : kd 81 = 9) hin_X9_trace_X9 (List.mem_of_getElem? (i := 1) rfl) ?_
  refine x_aload_n hG dX9_trace_5 rfl rfl ?_
  refine x_get_9_1 hG dX9_trace_6 (rfl : kd 81 = 9) hin_X9_trace_X9 (List.mem_of_getElem? (i := 2) rfl) ?_
  exact x_lret hG hQ dX9_trace_9 h
