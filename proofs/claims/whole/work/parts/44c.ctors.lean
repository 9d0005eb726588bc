abbrev rm_X6_init : Room := { frames := 1, cells := 8, slots := 342, locals := 12 }
theorem hy_X6_init : yX6_init.cls ≠ "java/lang/invoke/MethodHandle" ∧ yX6_init.cls ≠ "java/lang/invoke/VarHandle" ∧ (parseMethodDescriptor yX6_init.desc).map (fun d => d.parameters.length) = some 0 := by decide +kernel
theorem hin_X6_init_X6 : ∀ w ∈ wsX60, w ∈ wsX6_init := fun _ h => List.mem_cons_of_mem _ (List.mem_append_right _ h)
set_option maxRecDepth 100000 in
set_option maxHeartbeats 8000000 in
theorem c_X6_init (l : Launch) (D : va_G) (cs : xCs) (sz h0 : Nat) : kMet l yX6_init wsX6_init rm_X6_init D cs sz h0 6 [.null, .null, .int 0] (kBl cs 5 9) 8 342 := by
  refine k_met [some (.ref h0)] (by decide) rfl rfl (Nat.le_of_ble_eq_true rfl) rfl rfl D cs sz rfl rfl (fun G e1 e2 e3 hG hQ => ?_)
  subst e1
  subst e2
  subst e3
  refine k_aload_n hG dX6_init_0 rfl rfl ?_
  refine k_objInit hG dX6_init_1 (List.mem_of_getElem? (i := 1) rfl) (List.mem_of_getElem? (i := 2) rfl) (List.mem_of_getElem? (i := 3) rfl) (Nat.le_of_ble_eq_true rfl) (Nat.le_of_ble_eq_true rfl) ?_
  refine k_aload_n hG dX6_init_4 rfl rfl ?_
  refine k_bipush (v := (6 : Int32)) hG dX6_init_5 (by decide) ?_
  refine k_bipush (v := (48 : Int32)) hG dX6_init_7 (by decide) ?_
  refine k_multi (N := 6) (K := 48) hG dX6_init_9 (List.mem_of_getElem? (i := 4) rfl) (List.mem_of_getElem? (i := 5) rfl) (by decide) (by decide) (by decide) (by decide) (Nat.le_of_ble_eq_true rfl) (Nat.le_of_ble_eq_true rfl) (Nat.le_of_ble_eq_true rfl) (Nat.le_of_ble_eq_true rfl) (Nat.le_of_ble_eq_true rfl) (fun q1 r1 => ?_)
  refine k_putF (C := RX6) (T := TX6) (N := 3) (q0 := 0) hG dX6_init_13 hin_X6_init_X6 tyX6 tyX6_ok nmX6 rfl rfl 0 (by decide) (List.mem_of_getElem? (i := 6) rfl) rfl rfl (by decide) rfl rfl (Nat.le_of_ble_eq_true rfl) ?_
  refine k_aload_n hG dX6_init_16 rfl rfl ?_
  refine k_bipush (v := (48 : Int32)) hG dX6_init_17 (by decide) ?_
  refine k_newi (N := 48) hG dX6_init_19 (List.mem_of_getElem? (i := 5) rfl) (by decide) (by decide) (Nat.le_of_ble_eq_true rfl) (Nat.le_of_ble_eq_true rfl) (Nat.le_of_ble_eq_true rfl) (fun q2 => ?_)
  refine k_putF (C := RX6) (T := TX6) (N := 3) (q0 := 0) hG dX6_init_21 hin_X6_init_X6 tyX6 tyX6_ok nmX6 rfl rfl 1 (by decide) (List.mem_of_getElem? (i := 7) rfl) rfl rfl (by decide) rfl rfl (Nat.le_of_ble_eq_true rfl) ?_
  refine k_aload_n hG dX6_init_24 rfl rfl ?_
  refine k_iconst (v := (3 : Int32)) hG dX6_init_25 (by decide) ?_
  refine k_put (C := RX6) (T := TX6) (N := 3) (q0 := 0) hG dX6_init_26 hin_X6_init_X6 tyX6 tyX6_ok nmX6 rfl rfl 2 (by decide) (List.mem_of_getElem? (i := 8) rfl) rfl rfl rfl (Nat.le_of_ble_eq_true rfl) ?_
  refine k_cast (w2 := [(h0, .inr (6, [.ref q1, .ref q2, .int 3])), (q1, .inl ((xC G).2.1, 6, .inr (.inr (.inr (.inr (fun i => if i < 6 then some (r1 i) else none)))))), ((r1 0), .inl ((xC G).1, 48, .inl (fun _ => 0))), ((r1 1), .inl ((xC G).1, 48, .inl (fun _ => 0))), ((r1 2), .inl ((xC G).1, 48, .inl (fun _ => 0))), ((r1 3), .inl ((xC G).1, 48, .inl (fun _ => 0))), ((r1 4), .inl ((xC G).1, 48, .inl (fun _ => 0))), ((r1 5), .inl ((xC G).1, 48, .inl (fun _ => 0))), (q2, .inl ((xC G).1, 48, .inl (fun _ => 0)))]) rfl ?_
  exact k_ret (fun i => [h0, q1, (r1 0), (r1 1), (r1 2), (r1 3), (r1 4), (r1 5), q2].getD i 0) [] hG hQ dX6_init_29 rfl (fun H hP => va_P_cons (hP 0 _ rfl) (va_P_cons (va_atq (hP 1 _ rfl) (fun j hj => by have hj2 : j < 6 := hj; rcases (show j = 0 ∨ j = 1 ∨ j = 2 ∨ j = 3 ∨ j = 4 ∨ j = 5 by omega) with rfl | rfl | rfl | rfl | rfl | rfl <;> rfl)) (va_P_cons (hP 2 _ rfl) (va_P_cons (hP 3 _ rfl) (va_P_cons (hP 4 _ rfl) (va_P_cons (hP 5 _ rfl) (va_P_cons (hP 6 _ rfl) (va_P_cons (hP 7 _ rfl) (va_P_cons (hP 8 _ rfl) (va_P_nil)))))))))) (fun A hD => va_D_perm [0, 1, 2, 3, 4, 5, 6, 7, 8] (by decide +kernel) rfl hD)
