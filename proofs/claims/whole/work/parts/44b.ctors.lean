abbrev rm_X3_init : Room := { frames := 2, cells := 6, slots := 211, locals := 32 }
theorem hy_X3_init : yX3_init.cls ≠ "java/lang/invoke/MethodHandle" ∧ yX3_init.cls ≠ "java/lang/invoke/VarHandle" ∧ (parseMethodDescriptor yX3_init.desc).map (fun d => d.parameters.length) = some 0 := by decide +kernel
theorem hin_X3_init_X0 : ∀ w ∈ wsX00, w ∈ wsX3_init := fun _ h => List.mem_cons_of_mem _ (List.mem_append_left _ (List.mem_append_left _ (List.mem_append_right _ h)))
theorem hin_X3_init_X1 : ∀ w ∈ wsX10, w ∈ wsX3_init := fun _ h => List.mem_cons_of_mem _ (List.mem_append_right _ h)
theorem hin_X3_init_X3 : ∀ w ∈ wsX30, w ∈ wsX3_init := fun _ h => List.mem_cons_of_mem _ (List.mem_append_left _ (List.mem_append_right _ h))
set_option maxRecDepth 100000 in
set_option maxHeartbeats 8000000 in
theorem c_X3_init (l : Launch) (D : va_G) (cs : xCs) (sz h0 : Nat) : kMet l yX3_init wsX3_init rm_X3_init D cs sz h0 3 [.null, .null, .int 0] (kBl cs 21 7) 6 211 := by
  refine k_met [some (.ref h0)] (by decide) rfl rfl (Nat.le_of_ble_eq_true rfl) rfl rfl D cs sz rfl rfl (fun G e1 e2 e3 hG hQ => ?_)
  subst e1
  subst e2
  subst e3
  refine k_aload_n hG dX3_init_0 rfl rfl ?_
  refine k_objInit hG dX3_init_1 (List.mem_of_getElem? (i := 1) rfl) (List.mem_of_getElem? (i := 2) rfl) (List.mem_of_getElem? (i := 3) rfl) (Nat.le_of_ble_eq_true rfl) (Nat.le_of_ble_eq_true rfl) ?_
  refine k_aload_n hG dX3_init_4 rfl rfl ?_
  refine k_new (C := RX0) (T := TX0) (N := 4) (ci := 0) (fs := [.null, .null, .int 0, .int 0]) hG dX3_init_5 hin_X3_init_X0 tyX0 tyX0_ok (List.mem_of_getElem? (i := 4) rfl) (List.mem_of_getElem? (i := 5) rfl) (List.mem_of_getElem? (i := 6) rfl) rfl (fun j hj => by rcases (show j = 0 ∨ j = 1 ∨ j = 2 ∨ j = 3 by omega) with rfl | rfl | rfl | rfl <;> rfl) (Nat.le_of_ble_eq_true rfl) (Nat.le_of_ble_eq_true rfl) (fun q1 => ?_)
  refine k_dup hG dX3_init_8 rfl ?_
  refine k_init hG dX3_init_9 (fun _ h => h.2.2.2.2.2.2.2.2.1) (fun sz => c_X0_init (xL G) (xD G) (xC G) sz q1) gX3_init_X0_init_n9 rfl ⟨rfl, rfl⟩ (List.mem_of_getElem? (i := 6) rfl) (List.mem_of_getElem? (i := 12) rfl) rfl hy_X0_init ⟨Nat.le_of_ble_eq_true rfl, Nat.le_of_ble_eq_true rfl⟩ (Nat.le_of_ble_eq_true rfl) (Nat.le_of_ble_eq_true rfl) (Nat.le_of_ble_eq_true rfl) (fun u1 hu1 => ?_)
  subst hu1
  refine k_putF (C := RX3) (T := TX3) (N := 3) (q0 := 0) hG dX3_init_12 hin_X3_init_X3 tyX3 tyX3_ok nmX3 rfl rfl 0 (by decide) (List.mem_of_getElem? (i := 7) rfl) rfl rfl (by decide) rfl rfl (Nat.le_of_ble_eq_true rfl) ?_
  refine k_aload_n hG dX3_init_15 rfl rfl ?_
  refine k_new (C := RX1) (T := TX1) (N := 3) (ci := 1) (fs := [.null, .null, .int 0]) hG dX3_init_16 hin_X3_init_X1 tyX1 tyX1_ok (List.mem_of_getElem? (i := 8) rfl) (List.mem_of_getElem? (i := 9) rfl) (List.mem_of_getElem? (i := 10) rfl) rfl (fun j hj => by rcases (show j = 0 ∨ j = 1 ∨ j = 2 by omega) with rfl | rfl | rfl <;> rfl) (Nat.le_of_ble_eq_true rfl) (Nat.le_of_ble_eq_true rfl) (fun q2 => ?_)
  refine k_dup hG dX3_init_19 rfl ?_
  refine k_init hG dX3_init_20 (fun _ h => h.2.2.2.2.2.2.2.2.2.1) (fun sz => c_X1_init (xL G) (xD G) (xC G) sz q2) gX3_init_X1_init_n18 rfl ⟨rfl, rfl⟩ (List.mem_of_getElem? (i := 10) rfl) (List.mem_of_getElem? (i := 18) rfl) rfl hy_X1_init ⟨Nat.le_of_ble_eq_true rfl, Nat.le_of_ble_eq_true rfl⟩ (Nat.le_of_ble_eq_true rfl) (Nat.le_of_ble_eq_true rfl) (Nat.le_of_ble_eq_true rfl) (fun u2 hu2 => ?_)
  subst hu2
  refine k_putF (C := RX3) (T := TX3) (N := 3) (q0 := 0) hG dX3_init_23 hin_X3_init_X3 tyX3 tyX3_ok nmX3 rfl rfl 1 (by decide) (List.mem_of_getElem? (i := 11) rfl) rfl rfl (by decide) rfl rfl (Nat.le_of_ble_eq_true rfl) ?_
  refine k_cast (w2 := [(h0, .inr (3, [.ref (u1 0), .ref (u2 0), .int 0])), ((u1 0), xcell (fun j => u1 (j - 22)) (xC G) M00 (22 + 0)), ((u1 1), xcell (fun j => u1 (j - 22)) (xC G) M00 (22 + 1)), ((u1 2), xcell (fun j => u1 (j - 22)) (xC G) M00 (22 + 2)), ((u2 0), xcell (fun j => u2 (j - 17)) (xC G) M00 (17 + 0)), ((u2 1), xcell (fun j => u2 (j - 17)) (xC G) M00 (17 + 1)), ((u2 2), xcell (fun j => u2 (j - 17)) (xC G) M00 (17 + 2))]) rfl ?_
  exact k_ret (fun i => [h0, (u1 0), (u1 1), (u1 2), (u2 0), (u2 1), (u2 2)].getD i 0) [] hG hQ dX3_init_26 rfl (fun H hP => va_P_cons (hP 0 _ rfl) (va_P_cons (hP 1 _ rfl) (va_P_cons (hP 2 _ rfl) (va_P_cons (hP 3 _ rfl) (va_P_cons (hP 4 _ rfl) (va_P_cons (hP 5 _ rfl) (va_P_cons (hP 6 _ rfl) (va_P_nil)))))))) (fun A hD => va_D_perm [0, 1, 2, 3, 4, 5, 6] (by decide +kernel) rfl hD)
abbrev rm_X4_init : Room := { frames := 1, cells := 2, slots := 128, locals := 12 }
theorem hy_X4_init : yX4_init.cls ≠ "java/lang/invoke/MethodHandle" ∧ yX4_init.cls ≠ "java/lang/invoke/VarHandle" ∧ (parseMethodDescriptor yX4_init.desc).map (fun d => d.parameters.length) = some 0 := by decide +kernel
theorem hin_X4_init_X4 : ∀ w ∈ wsX40, w ∈ wsX4_init := fun _ h => List.mem_cons_of_mem _ (List.mem_append_right _ h)
set_option maxRecDepth 100000 in
set_option maxHeartbeats 8000000 in
theorem c_X4_init (l : Launch) (D : va_G) (cs : xCs) (sz h0 : Nat) : kMet l yX4_init wsX4_init rm_X4_init D cs sz h0 4 [.null, .null, .int 0, .int 0] (kBl cs 14 3) 2 128 := by
  refine k_met [some (.ref h0)] (by decide) rfl rfl (Nat.le_of_ble_eq_true rfl) rfl rfl D cs sz rfl rfl (fun G e1 e2 e3 hG hQ => ?_)
  subst e1
  subst e2
  subst e3
  refine k_aload_n hG dX4_init_0 rfl rfl ?_
  refine k_objInit hG dX4_init_1 (List.mem_of_getElem? (i := 1) rfl) (List.mem_of_getElem? (i := 2) rfl) (List.mem_of_getElem? (i := 3) rfl) (Nat.le_of_ble_eq_true rfl) (Nat.le_of_ble_eq_true rfl) ?_
  refine k_aload_n hG dX4_init_4 rfl rfl ?_
  refine k_bipush (v := (64 : Int32)) hG dX4_init_5 (by decide) ?_
  refine k_newi (N := 64) hG dX4_init_7 (List.mem_of_getElem? (i := 4) rfl) (by decide) (by decide) (Nat.le_of_ble_eq_true rfl) (Nat.le_of_ble_eq_true rfl) (Nat.le_of_ble_eq_true rfl) (fun q1 => ?_)
  refine k_putF (C := RX4) (T := TX4) (N := 4) (q0 := 0) hG dX4_init_9 hin_X4_init_X4 tyX4 tyX4_ok nmX4 rfl rfl 0 (by decide) (List.mem_of_getElem? (i := 5) rfl) rfl rfl (by decide) rfl rfl (Nat.le_of_ble_eq_true rfl) ?_
  refine k_aload_n hG dX4_init_12 rfl rfl ?_
  refine k_bipush (v := (64 : Int32)) hG dX4_init_13 (by decide) ?_
  refine k_newi (N := 64) hG dX4_init_15 (List.mem_of_getElem? (i := 4) rfl) (by decide) (by decide) (Nat.le_of_ble_eq_true rfl) (Nat.le_of_ble_eq_true rfl) (Nat.le_of_ble_eq_true rfl) (fun q2 => ?_)
  refine k_putF (C := RX4) (T := TX4) (N := 4) (q0 := 0) hG dX4_init_17 hin_X4_init_X4 tyX4 tyX4_ok nmX4 rfl rfl 1 (by decide) (List.mem_of_getElem? (i := 6) rfl) rfl rfl (by decide) rfl rfl (Nat.le_of_ble_eq_true rfl) ?_
  refine k_cast (w2 := [(h0, .inr (4, [.ref q1, .ref q2, .int 0, .int 0])), (q1, .inl ((xC G).1, 64, .inl (fun _ => 0))), (q2, .inl ((xC G).1, 64, .inl (fun _ => 0)))]) rfl ?_
  exact k_ret (fun i => [h0, q1, q2].getD i 0) [] hG hQ dX4_init_20 rfl (fun H hP => va_P_cons (hP 0 _ rfl) (va_P_cons (hP 1 _ rfl) (va_P_cons (hP 2 _ rfl) (va_P_nil)))) (fun A hD => va_D_perm [0, 1, 2] (by decide +kernel) rfl hD)
abbrev rm_X5_init : Room := { frames := 2, cells := 3, slots := 404, locals := 32 }
theorem hy_X5_init : yX5_init.cls ≠ "java/lang/invoke/MethodHandle" ∧ yX5_init.cls ≠ "java/lang/invoke/VarHandle" ∧ (parseMethodDescriptor yX5_init.desc).map (fun d => d.parameters.length) = some 0 := by decide +kernel
theorem hin_X5_init_X5 : ∀ w ∈ wsX50, w ∈ wsX5_init := fun _ h => List.mem_cons_of_mem _ (List.mem_append_right _ h)
theorem hin_X5_init_X7 : ∀ w ∈ wsX70, w ∈ wsX5_init := fun _ h => List.mem_cons_of_mem _ (List.mem_append_left _ (List.mem_append_right _ h))
set_option maxRecDepth 100000 in
set_option maxHeartbeats 8000000 in
theorem c_X5_init (l : Launch) (D : va_G) (cs : xCs) (sz h0 : Nat) : kMet l yX5_init wsX5_init rm_X5_init D cs sz h0 5 [.null, .null, .int 0, .int 0, .int 0, .int 0] (kBl cs 1 4) 3 404 := by
  refine k_met [some (.ref h0)] (by decide) rfl rfl (Nat.le_of_ble_eq_true rfl) rfl rfl D cs sz rfl rfl (fun G e1 e2 e3 hG hQ => ?_)
  subst e1
  subst e2
  subst e3
  refine k_aload_n hG dX5_init_0 rfl rfl ?_
  refine k_objInit hG dX5_init_1 (List.mem_of_getElem? (i := 1) rfl) (List.mem_of_getElem? (i := 2) rfl) (List.mem_of_getElem? (i := 3) rfl) (Nat.le_of_ble_eq_true rfl) (Nat.le_of_ble_eq_true rfl) ?_
  refine k_aload_n hG dX5_init_4 rfl rfl ?_
  refine k_new (C := RX7) (T := TX7) (N := 2) (ci := 7) (fs := [.null, .int 0]) hG dX5_init_5 hin_X5_init_X7 tyX7 tyX7_ok (List.mem_of_getElem? (i := 4) rfl) (List.mem_of_getElem? (i := 5) rfl) (List.mem_of_getElem? (i := 6) rfl) rfl (fun j hj => by rcases (show j = 0 ∨ j = 1 by omega) with rfl | rfl <;> rfl) (Nat.le_of_ble_eq_true rfl) (Nat.le_of_ble_eq_true rfl) (fun q1 => ?_)
  refine k_dup hG dX5_init_8 rfl ?_
  refine k_init hG dX5_init_9 (fun _ h => h.2.1) (fun sz => c_X7_init (xL G) (xD G) (xC G) sz q1) gX5_init_X7_init_n11 rfl ⟨rfl, rfl⟩ (List.mem_of_getElem? (i := 6) rfl) (List.mem_of_getElem? (i := 10) rfl) rfl hy_X7_init ⟨Nat.le_of_ble_eq_true rfl, Nat.le_of_ble_eq_true rfl⟩ (Nat.le_of_ble_eq_true rfl) (Nat.le_of_ble_eq_true rfl) (Nat.le_of_ble_eq_true rfl) (fun u1 hu1 => ?_)
  subst hu1
  refine k_putF (C := RX5) (T := TX5) (N := 6) (q0 := 0) hG dX5_init_12 hin_X5_init_X5 tyX5 tyX5_ok nmX5 rfl rfl 0 (by decide) (List.mem_of_getElem? (i := 7) rfl) rfl rfl (by decide) rfl rfl (Nat.le_of_ble_eq_true rfl) ?_
  refine k_aload_n hG dX5_init_15 rfl rfl ?_
  refine k_iconst (v := (2 : Int32)) hG dX5_init_16 (by decide) ?_
  refine k_newi (N := 2) hG dX5_init_17 (List.mem_of_getElem? (i := 8) rfl) (by decide) (by decide) (Nat.le_of_ble_eq_true rfl) (Nat.le_of_ble_eq_true rfl) (Nat.le_of_ble_eq_true rfl) (fun q2 => ?_)
  refine k_putF (C := RX5) (T := TX5) (N := 6) (q0 := 0) hG dX5_init_19 hin_X5_init_X5 tyX5 tyX5_ok nmX5 rfl rfl 1 (by decide) (List.mem_of_getElem? (i := 9) rfl) rfl rfl (by decide) rfl rfl (Nat.le_of_ble_eq_true rfl) ?_
  refine k_cast (w2 := [(h0, .inr (5, [.ref (u1 0), .ref q2, .int 0, .int 0, .int 0, .int 0])), ((u1 0), xcell (fun j => u1 (j - 2)) (xC G) M00 (2 + 0)), ((u1 1), xcell (fun j => u1 (j - 2)) (xC G) M00 (2 + 1)), (q2, .inl ((xC G).1, 2, .inl (fun _ => 0)))]) rfl ?_
  exact k_ret (fun i => [h0, (u1 0), (u1 1), q2].getD i 0) [] hG hQ dX5_init_22 rfl (fun H hP => va_P_cons (hP 0 _ rfl) (va_P_cons (hP 1 _ rfl) (va_P_cons (hP 2 _ rfl) (va_P_cons (hP 3 _ rfl) (va_P_nil))))) (fun A hD => va_D_perm [0, 1, 2, 3] (by decide +kernel) rfl hD)
