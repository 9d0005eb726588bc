abbrev rm_X2_init : Room := { frames := 2, cells := 22, slots := 614, locals := 32 }
theorem hy_X2_init : yX2_init.cls ≠ "java/lang/invoke/MethodHandle" ∧ yX2_init.cls ≠ "java/lang/invoke/VarHandle" ∧ (parseMethodDescriptor yX2_init.desc).map (fun d => d.parameters.length) = some 0 := by decide +kernel
theorem hin_X2_init_X0 : ∀ w ∈ wsX00, w ∈ wsX2_init := fun _ h => List.mem_cons_of_mem _ (List.mem_append_right _ h)
theorem hin_X2_init_X2 : ∀ w ∈ wsX20, w ∈ wsX2_init := fun _ h => List.mem_cons_of_mem _ (List.mem_append_left _ (List.mem_append_right _ h))
set_option maxRecDepth 100000 in
set_option maxHeartbeats 8000000 in
theorem c_X2_init (l : Launch) (D : va_G) (cs : xCs) (sz h0 : Nat) : kMet l yX2_init wsX2_init rm_X2_init D cs sz h0 2 [.int 0, .int 0, .int 0, .int 0, .null, .null, .null, .null, .null, .null] (kBl cs 35 23) 22 614 := by
  refine k_met [some (.ref h0)] (by decide) rfl rfl (Nat.le_of_ble_eq_true rfl) rfl rfl D cs sz rfl rfl (fun G e1 e2 e3 hG hQ => ?_)
  subst e1
  subst e2
  subst e3
  refine k_aload_n hG dX2_init_0 rfl rfl ?_
  refine k_objInit hG dX2_init_1 (List.mem_of_getElem? (i := 1) rfl) (List.mem_of_getElem? (i := 2) rfl) (List.mem_of_getElem? (i := 3) rfl) (Nat.le_of_ble_eq_true rfl) (Nat.le_of_ble_eq_true rfl) ?_
  refine k_aload_n hG dX2_init_4 rfl rfl ?_
  refine k_iconst (v := (4 : Int32)) hG dX2_init_5 (by decide) ?_
  refine k_put (C := RX2) (T := TX2) (N := 10) (q0 := 0) hG dX2_init_6 hin_X2_init_X2 tyX2 tyX2_ok nmX2 rfl rfl 0 (by decide) (List.mem_of_getElem? (i := 4) rfl) rfl rfl rfl (Nat.le_of_ble_eq_true rfl) ?_
  refine k_aload_n hG dX2_init_9 rfl rfl ?_
  refine k_iconst (v := (3 : Int32)) hG dX2_init_10 (by decide) ?_
  refine k_put (C := RX2) (T := TX2) (N := 10) (q0 := 0) hG dX2_init_11 hin_X2_init_X2 tyX2 tyX2_ok nmX2 rfl rfl 1 (by decide) (List.mem_of_getElem? (i := 5) rfl) rfl rfl rfl (Nat.le_of_ble_eq_true rfl) ?_
  refine k_aload_n hG dX2_init_14 rfl rfl ?_
  refine k_new (C := RX0) (T := TX0) (N := 4) (ci := 0) (fs := [.null, .null, .int 0, .int 0]) hG dX2_init_15 hin_X2_init_X0 tyX0 tyX0_ok (List.mem_of_getElem? (i := 6) rfl) (List.mem_of_getElem? (i := 7) rfl) (List.mem_of_getElem? (i := 8) rfl) rfl (fun j hj => by rcases (show j = 0 ∨ j = 1 ∨ j = 2 ∨ j = 3 by omega) with rfl | rfl | rfl | rfl <;> rfl) (Nat.le_of_ble_eq_true rfl) (Nat.le_of_ble_eq_true rfl) (fun q1 => ?_)
  refine k_dup hG dX2_init_18 rfl ?_
  refine k_init hG dX2_init_19 (fun _ h => h.2.2.2.2.2.2.1) (fun sz => c_X0_init (xL G) (xD G) (xC G) sz q1) gX2_init_X0_init_n20 rfl ⟨rfl, rfl⟩ (List.mem_of_getElem? (i := 8) rfl) (List.mem_of_getElem? (i := 17) rfl) rfl hy_X0_init ⟨Nat.le_of_ble_eq_true rfl, Nat.le_of_ble_eq_true rfl⟩ (Nat.le_of_ble_eq_true rfl) (Nat.le_of_ble_eq_true rfl) (Nat.le_of_ble_eq_true rfl) (fun u1 hu1 => ?_)
  subst hu1
  refine k_putF (C := RX2) (T := TX2) (N := 10) (q0 := 0) hG dX2_init_22 hin_X2_init_X2 tyX2 tyX2_ok nmX2 rfl rfl 4 (by decide) (List.mem_of_getElem? (i := 9) rfl) rfl rfl (by decide) rfl rfl (Nat.le_of_ble_eq_true rfl) ?_
  refine k_aload_n hG dX2_init_25 rfl rfl ?_
  refine k_bipush (v := (6 : Int32)) hG dX2_init_26 (by decide) ?_
  refine k_iconst (v := (4 : Int32)) hG dX2_init_28 (by decide) ?_
  refine k_multi (N := 6) (K := 4) hG dX2_init_29 (List.mem_of_getElem? (i := 10) rfl) (List.mem_of_getElem? (i := 11) rfl) (by decide) (by decide) (by decide) (by decide) (Nat.le_of_ble_eq_true rfl) (Nat.le_of_ble_eq_true rfl) (Nat.le_of_ble_eq_true rfl) (Nat.le_of_ble_eq_true rfl) (Nat.le_of_ble_eq_true rfl) (fun q2 r2 => ?_)
  refine k_putF (C := RX2) (T := TX2) (N := 10) (q0 := 0) hG dX2_init_33 hin_X2_init_X2 tyX2 tyX2_ok nmX2 rfl rfl 5 (by decide) (List.mem_of_getElem? (i := 12) rfl) rfl rfl (by decide) rfl rfl (Nat.le_of_ble_eq_true rfl) ?_
  refine k_aload_n hG dX2_init_36 rfl rfl ?_
  refine k_bipush (v := (8 : Int32)) hG dX2_init_37 (by decide) ?_
  refine k_bipush (v := (6 : Int32)) hG dX2_init_39 (by decide) ?_
  refine k_multi (N := 8) (K := 6) hG dX2_init_41 (List.mem_of_getElem? (i := 10) rfl) (List.mem_of_getElem? (i := 11) rfl) (by decide) (by decide) (by decide) (by decide) (Nat.le_of_ble_eq_true rfl) (Nat.le_of_ble_eq_true rfl) (Nat.le_of_ble_eq_true rfl) (Nat.le_of_ble_eq_true rfl) (Nat.le_of_ble_eq_true rfl) (fun q3 r3 => ?_)
  refine k_putF (C := RX2) (T := TX2) (N := 10) (q0 := 0) hG dX2_init_45 hin_X2_init_X2 tyX2 tyX2_ok nmX2 rfl rfl 6 (by decide) (List.mem_of_getElem? (i := 13) rfl) rfl rfl (by decide) rfl rfl (Nat.le_of_ble_eq_true rfl) ?_
  refine k_aload_n hG dX2_init_48 rfl rfl ?_
  refine k_bipush (v := (12 : Int32)) hG dX2_init_49 (by decide) ?_
  refine k_newi (N := 12) hG dX2_init_51 (List.mem_of_getElem? (i := 11) rfl) (by decide) (by decide) (Nat.le_of_ble_eq_true rfl) (Nat.le_of_ble_eq_true rfl) (Nat.le_of_ble_eq_true rfl) (fun q4 => ?_)
  refine k_putF (C := RX2) (T := TX2) (N := 10) (q0 := 0) hG dX2_init_53 hin_X2_init_X2 tyX2 tyX2_ok nmX2 rfl rfl 7 (by decide) (List.mem_of_getElem? (i := 14) rfl) rfl rfl (by decide) rfl rfl (Nat.le_of_ble_eq_true rfl) ?_
  refine k_aload_n hG dX2_init_56 rfl rfl ?_
  refine k_bipush (v := (64 : Int32)) hG dX2_init_57 (by decide) ?_
  refine k_newi (N := 64) hG dX2_init_59 (List.mem_of_getElem? (i := 11) rfl) (by decide) (by decide) (Nat.le_of_ble_eq_true rfl) (Nat.le_of_ble_eq_true rfl) (Nat.le_of_ble_eq_true rfl) (fun q5 => ?_)
  refine k_putF (C := RX2) (T := TX2) (N := 10) (q0 := 0) hG dX2_init_61 hin_X2_init_X2 tyX2 tyX2_ok nmX2 rfl rfl 8 (by decide) (List.mem_of_getElem? (i := 15) rfl) rfl rfl (by decide) rfl rfl (Nat.le_of_ble_eq_true rfl) ?_
  refine k_aload_n hG dX2_init_64 rfl rfl ?_
  refine k_sipush (v := (256 : Int32)) hG dX2_init_65 (by decide) ?_
  refine k_newi (N := 256) hG dX2_init_68 (List.mem_of_getElem? (i := 11) rfl) (by decide) (by decide) (Nat.le_of_ble_eq_true rfl) (Nat.le_of_ble_eq_true rfl) (Nat.le_of_ble_eq_true rfl) (fun q6 => ?_)
  refine k_putF (C := RX2) (T := TX2) (N := 10) (q0 := 0) hG dX2_init_70 hin_X2_init_X2 tyX2 tyX2_ok nmX2 rfl rfl 9 (by decide) (List.mem_of_getElem? (i := 16) rfl) rfl rfl (by decide) rfl rfl (Nat.le_of_ble_eq_true rfl) ?_
  refine k_cast (w2 := [(h0, .inr (2, [.int 4, .int 3, .int 0, .int 0, .ref (u1 0), .ref q2, .ref q3, .ref q4, .ref q5, .ref q6])), ((u1 0), xcell (fun j => u1 (j - 22)) (xC G) M00 (22 + 0)), ((u1 1), xcell (fun j => u1 (j - 22)) (xC G) M00 (22 + 1)), ((u1 2), xcell (fun j => u1 (j - 22)) (xC G) M00 (22 + 2)), (q2, .inl ((xC G).2.1, 6, .inr (.inr (.inr (.inr (fun i => if i < 6 then some (r2 i) else none)))))), ((r2 0), .inl ((xC G).1, 4, .inl (fun _ => 0))), ((r2 1), .inl ((xC G).1, 4, .inl (fun _ => 0))), ((r2 2), .inl ((xC G).1, 4, .inl (fun _ => 0))), ((r2 3), .inl ((xC G).1, 4, .inl (fun _ => 0))), ((r2 4), .inl ((xC G).1, 4, .inl (fun _ => 0))), ((r2 5), .inl ((xC G).1, 4, .inl (fun _ => 0))), (q3, .inl ((xC G).2.1, 8, .inr (.inr (.inr (.inr (fun i => if i < 8 then some (r3 i) else none)))))), ((r3 0), .inl ((xC G).1, 6, .inl (fun _ => 0))), ((r3 1), .inl ((xC G).1, 6, .inl (fun _ => 0))), ((r3 2), .inl ((xC G).1, 6, .inl (fun _ => 0))), ((r3 3), .inl ((xC G).1, 6, .inl (fun _ => 0))), ((r3 4), .inl ((xC G).1, 6, .inl (fun _ => 0))), ((r3 5), .inl ((xC G).1, 6, .inl (fun _ => 0))), ((r3 6), .inl ((xC G).1, 6, .inl (fun _ => 0))), ((r3 7), .inl ((xC G).1, 6, .inl (fun _ => 0))), (q4, .inl ((xC G).1, 12, .inl (fun _ => 0))), (q5, .inl ((xC G).1, 64, .inl (fun _ => 0))), (q6, .inl ((xC G).1, 256, .inl (fun _ => 0)))]) rfl ?_
  exact k_ret (fun i => [h0, (u1 0), (u1 1), (u1 2), q2, (r2 0), (r2 1), (r2 2), (r2 3), (r2 4), (r2 5), q3, (r3 0), (r3 1), (r3 2), (r3 3), (r3 4), (r3 5), (r3 6), (r3 7), q4, q5, q6].getD i 0) [] hG hQ dX2_init_73 rfl (fun H hP => va_P_cons (hP 0 _ rfl) (va_P_cons (hP 1 _ rfl) (va_P_cons (hP 2 _ rfl) (va_P_cons (hP 3 _ rfl) (va_P_cons (va_atq (hP 4 _ rfl) (fun j hj => by have hj2 : j < 6 := hj; rcases (show j = 0 ∨ j = 1 ∨ j = 2 ∨ j = 3 ∨ j = 4 ∨ j = 5 by omega) with rfl | rfl | rfl | rfl | rfl | rfl <;> rfl)) (va_P_cons (hP 5 _ rfl) (va_P_cons (hP 6 _ rfl) (va_P_cons (hP 7 _ rfl) (va_P_cons (hP 8 _ rfl) (va_P_cons (hP 9 _ rfl) (va_P_cons (hP 10 _ rfl) (va_P_cons (va_atq (hP 11 _ rfl) (fun j hj => by have hj2 : j < 8 := hj; rcases (show j = 0 ∨ j = 1 ∨ j = 2 ∨ j = 3 ∨ j = 4 ∨ j = 5 ∨ j = 6 ∨ j = 7 by omega) with rfl | rfl | rfl | rfl | rfl | rfl | rfl | rfl <;> rfl)) (va_P_cons (hP 12 _ rfl) (va_P_cons (hP 13 _ rfl) (va_P_cons (hP 14 _ rfl) (va_P_cons (hP 15 _ rfl) (va_P_cons (hP 16 _ rfl) (va_P_cons (hP 17 _ rfl) (va_P_cons (hP 18 _ rfl) (va_P_cons (hP 19 _ rfl) (va_P_cons (hP 20 _ rfl) (va_P_cons (hP 21 _ rfl) (va_P_cons (hP 22 _ rfl) (va_P_nil)))))))))))))))))))))))) (fun A hD => va_D_perm [0, 1, 2, 3, 4, 5, 6, 7, 8, 9, 10, 11, 12, 13, 14, 15, 16, 17, 18, 19, 20, 21, 22] (by decide +kernel) rfl hD)
