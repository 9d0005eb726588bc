/-! the JDK's own methods that a text's charAt runs through, by hand -/
abbrev rm_J3_checkIndex_8e157 : Room := { frames := 0, cells := 0, slots := 0, locals := 0 }
abbrev rm_J0_checkIndex_df160 : Room := { frames := 1, cells := 0, slots := 0, locals := 22 }
abbrev rm_J2_charAt_3b067 : Room := { frames := 0, cells := 0, slots := 0, locals := 0 }
theorem hy_J3_checkIndex_8e157 : yJ3_checkIndex_8e157.cls ≠ "java/lang/invoke/MethodHandle" ∧ yJ3_checkIndex_8e157.cls ≠ "java/lang/invoke/VarHandle" ∧ (parseMethodDescriptor yJ3_checkIndex_8e157.desc).map (fun d => d.parameters.length) = some 3 := by decide +kernel
theorem hy_J0_checkIndex_df160 : yJ0_checkIndex_df160.cls ≠ "java/lang/invoke/MethodHandle" ∧ yJ0_checkIndex_df160.cls ≠ "java/lang/invoke/VarHandle" ∧ (parseMethodDescriptor yJ0_checkIndex_df160.desc).map (fun d => d.parameters.length) = some 2 := by decide +kernel
theorem hy_J2_charAt_3b067 : yJ2_charAt_3b067.cls ≠ "java/lang/invoke/MethodHandle" ∧ yJ2_charAt_3b067.cls ≠ "java/lang/invoke/VarHandle" ∧ (parseMethodDescriptor yJ2_charAt_3b067.desc).map (fun d => d.parameters.length) = some 2 := by decide +kernel
set_option maxRecDepth 100000 in
theorem c_J3_checkIndex_8e157 {l : Launch} {a : Nat → Nat} {M : xMem} {p0 p1 : Int32} {v : Value} {post : Int32 → xMem → Prop} (hv : v = .null ∨ ∃ t, v = .ref t) (ha : xInj a) (h0 : ¬ p0 < 0) (h1 : p0 < p1) (h : post p0 M) : ∀ D cs sz, xMetI l yJ3_checkIndex_8e157 wsJ3_checkIndex_8e157 rm_J3_checkIndex_8e157 D a cs sz M [.int p0, .int p1, v] post := by
  intro D cs sz
  have q1 : (lg_sl [.int p0, .int p1, v]).length ≤ 3 := by rcases hv with rfl | ⟨t, rfl⟩ <;> exact Nat.le_of_ble_eq_true rfl
  have q2 : lv_args 0 [.int p0, .int p1, v] = xps [some (.int p0), some (.int p1), some v] 0 := by rcases hv with rfl | ⟨t, rfl⟩ <;> rfl
  refine x_metI (ty := .int) [some (.int p0), some (.int p1), some v] (by decide) rfl rfl q1 q2 rfl ha D cs sz rfl (fun G e1 e2 hG hQ => ?_)
  subst e1
  subst e2
  refine x_iload_n hG dJ3_checkIndex_8e157_0 rfl rfl ?_
  refine x_if_lt (tgt := 9) hG dJ3_checkIndex_8e157_1 (by decide) (fun q => absurd q h0) (fun _ => ?_)
  refine x_iload_n hG dJ3_checkIndex_8e157_4 rfl rfl ?_
  refine x_iload_n hG dJ3_checkIndex_8e157_5 rfl rfl ?_
  refine x_icmp_lt (tgt := 16) hG dJ3_checkIndex_8e157_6 (by decide) (fun _ => ?_) (fun q => absurd h1 q)
  refine x_iload_n hG dJ3_checkIndex_8e157_16 rfl rfl ?_
  exact x_iret hG hQ dJ3_checkIndex_8e157_17 rfl h
set_option maxRecDepth 100000 in
theorem c_J0_checkIndex_df160 {l : Launch} {a : Nat → Nat} {M : xMem} {p0 p1 : Int32} {post : xMem → Prop} (ha : xInj a) (h : w_J0_checkIndex_df160 M p0 p1 post) : ∀ D cs sz, xMetV l yJ0_checkIndex_df160 wsJ0_checkIndex_df160 rm_J0_checkIndex_df160 D a cs sz M [.int p0, .int p1] post := by
  intro D cs sz
  obtain ⟨h0, h1, h⟩ := h
  refine x_metV [some (.int p0), some (.int p1)] (by decide) rfl rfl (Nat.le_of_ble_eq_true rfl) rfl rfl ha D cs sz rfl (fun G e1 e2 hG hQ => ?_)
  subst e1
  subst e2
  refine x_iload_n hG dJ0_checkIndex_df160_0 rfl rfl ?_
  refine x_iload_n hG dJ0_checkIndex_df160_1 rfl rfl ?_
  refine x_sform hG dJ0_checkIndex_df160_2 (List.mem_of_getElem? (i := 1) rfl) (fun v hvc hv => ?_)
  refine x_cSI3 hG dJ0_checkIndex_df160_5 (fun ha => c_J3_checkIndex_8e157 (post := fun r M1 => r = p0 ∧ M1 = M) hv ha h0 h1 ⟨rfl, rfl⟩) gJ0_checkIndex_df160_J3_checkIndex_8e157 rfl ⟨rfl, rfl⟩ hy_J3_checkIndex_8e157 ⟨Nat.le_of_ble_eq_true rfl, Nat.le_of_ble_eq_true rfl⟩ (Nat.le_of_ble_eq_true rfl) (fun r M1 h2 => ?_)
  obtain ⟨rfl, rfl⟩ := h2
  refine x_pop hG dJ0_checkIndex_df160_8 rfl ?_
  exact x_vret hG hQ dJ0_checkIndex_df160_9 h
theorem c_J2_charAt_3b067 {l : Launch} {a : Nat → Nat} {M : xMem} {p0 : Nat} {p1 : Int32} {post : Int32 → xMem → Prop} (_ : xInj a) (h : w_J2_charAt_3b067 M p0 p1 post) : ∀ D cs sz, xMetI l yJ2_charAt_3b067 wsJ2_charAt_3b067 rm_J2_charAt_3b067 D a cs sz M [.ref (a (200 + p0)), .int p1] post := absurd h id
