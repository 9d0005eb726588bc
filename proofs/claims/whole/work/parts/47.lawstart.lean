theorem k_world {G : xG} {w w2 : va_W} {nc ns : Nat} {lv : List (Option Value)} {st : List Value} {pc : Nat} (hP1 : ∀ D H, va_P D vwCl w H → va_P D vwCl w2 H) (hD1 : ∀ A, va_D A w → va_D A w2) (k : kW G w2 nc ns lv st pc) : kW G w nc ns lv st pc := by
  obtain ⟨p, l, e, R, s, m, args, below, meth, c, nL, A, H0, Q, D, a, cs, kc, ks⟩ := G
  intro H locs ls hP hD hS hl
  exact k H locs ls (hP1 D H hP) (hD1 A hD) hS hl
theorem kBl_of {cs : xCs} {u : Nat → Nat} {k : Nat} {q : Nat × va_E} (h : (kBl cs 0 81 u)[k]? = some q) : k < 81 ∧ q = (u k, xcell (fun j => u (j - 0)) cs M00 (0 + k)) := by
  have hk : k < 81 := by
    have := (List.getElem?_eq_some_iff.mp h).1
    rw [kBl_len] at this
    exact this
  rw [kBl_get cs u hk] at h
  exact ⟨hk, (Option.some.inj h).symm⟩
theorem kBl_re {D : va_G} {H : Heap} {cs : xCs} {u a : Nat → Nat} (hau : ∀ i, i < 81 → u i = a i) (hP : va_P D vwCl (kBl cs 0 81 u) H) : va_P D vwCl (kBl cs 0 81 a) H := by
  intro k q hk
  obtain ⟨h, rfl⟩ := kBl_of hk
  have h1 := hP k _ (kBl_get cs u h)
  rw [Nat.zero_add] at h1 ⊢
  rw [← hau k h]
  exact xcell_cong (a := fun j => u (j - 0)) (b := fun j => a (j - 0)) (fun j hj => hau j hj) h (by decide) (by decide) h1
theorem kBl_reD {A : Nat → Prop} {cs : xCs} {u a : Nat → Nat} (hau : ∀ i, i < 81 → u i = a i) (hD : va_D A (kBl cs 0 81 u)) : va_D A (kBl cs 0 81 a) := by
  refine ⟨fun i j p q hp hq hpq => ?_, fun k q hq => ?_⟩
  · obtain ⟨h1, rfl⟩ := kBl_of hp
    obtain ⟨h2, rfl⟩ := kBl_of hq
    exact hD.1 i j _ _ (kBl_get cs u h1) (kBl_get cs u h2) ((hau i h1).trans (Eq.trans hpq (hau j h2).symm))
  · obtain ⟨h1, rfl⟩ := kBl_of hq
    have := hD.2 k _ (kBl_get cs u h1)
    show A (a k)
    rw [← hau k h1]
    exact this
/-! the walk of the law from its entry -/
section KL
variable {G : xG} {w : va_W} {nc ns : Nat} {lv : List (Option Value)} {rest : List Value} {pc : Nat} {cc : ByteArray} {own : String} {ws : List Cond} {rm : Room}
theorem k_astore_n {j : Fin 4} {i : Nat} {x : Nat} (hG : kOk G cc own ws rm) (hd : decode cc pc = .ok (.astore_n j, 1)) (hi : (j : Nat) = i) (hn : i < lv.length) (ho : xok1 lv i = true) (k : kW G w nc ns (lv.set i (some (.ref x))) rest (pc + 1)) : kW G w nc ns lv (.ref x :: rest) pc := by
  obtain ⟨p, l, e, R, s, m, args, below, meth, c, nL, A, H0, Q, D, a, cs, kc, ks⟩ := G
  obtain ⟨hx, hb, hml, hown, hts, hK, hA, hR, hNw, hin⟩ := hG
  intro H locs ls hP hD hS hl
  exact lv_astore_n hx hb hd hi (xl_to hl) (by rw [← hl.2.2.1]; exact hn) rfl (fun ls2 h2 => k H locs ls2 hP hD hS (xl_set1 hn hl.2.2.1 ho h2))
/-- a public constructor, over the fresh object alone -/
theorem k_initP {y : MethodName} {bytes : ByteArray} {maxL index q ci mc ms : Nat} {wsY ws' : List Cond} {rmY : Room} {fs : List Value} {W1 : (Nat → Nat) → va_W} (hG : kOk G cc own ws rm) (hd : decode cc pc = .ok (.invokespecial index, 3)) (hlk : Cond.methodLink own index y ∈ ws) (hM : ∀ sz, kMet (xL G) y wsY rmY (xD G) (xC G) sz q ci fs W1 mc ms) (hg : GoodIn ws wsY) (hw : wsY = Cond.code y bytes maxL none :: ws') (hrm : rmY.cells = mc ∧ rmY.slots = ms) (hini : Cond.initialized y.cls ∈ ws) (hinst : Cond.instanceMethod y ∈ ws) (hyn : y.name = "<init>") (hy : y.cls ≠ "java/lang/invoke/MethodHandle" ∧ y.cls ≠ "java/lang/invoke/VarHandle" ∧ (parseMethodDescriptor y.desc).map (fun d => d.parameters.length) = some 0) (hR0 : rmY.frames + 1 ≤ rm.frames ∧ 8 + (maxL + 11) + rmY.locals ≤ rm.locals) (hcat : (rest.map fun v => v.category).sum ≤ 8) (hcells : nc + mc ≤ rm.cells) (hslots : ns + ms ≤ rm.slots) (kk : ∀ u : Nat → Nat, u 0 = q → kW G (W1 u) (nc + mc) (ns + ms) lv rest (pc + 3)) : kW G [(q, .inr (ci, fs))] nc ns lv (.ref q :: rest) pc := by
  obtain ⟨p, l, e, R, s, m, args, below, meth, c, nL, A, H0, Q, D, a, cs, kc, ks⟩ := G
  obtain ⟨hx, hb, hml, hown, hts, hK, hA, hR, hNw, hin⟩ := hG
  subst hR
  intro H locs ls hP hD hS hl
  have hFc := va_free (wc := [(q, .inr (ci, fs))]) hD hS hA [0] rfl
  refine va_callv (va_runI (As := []) (rest := rest) ⟨hx, hb, hml, hown, hts⟩ (hM H.size) (cwI 0 hts hg hw hrm.1 hrm.2 (hts _ hini) (hts _ hlk) (hts _ hinst) hyn hy hR0) ⟨fun b U g mk z => ⟨z.1, z.2.1, z.2.2.1, va_K.moved (u := U) (U := U.calling g mk b) (Vm.Alike.refl U.vm) z.2.2.2.1, z.2.2.2.2.1, kNw.blind z.2.2.2.2.2⟩, fun U hU hW => ⟨rfl, by rw [hU], by rw [hU]; exact hP, va_K.moved hW.alike hK, hD.weaken (fun _ _ _ _ => trivial), kNw.warm hW hNw⟩⟩ rfl rfl hl.1 rfl (lv_room hcat) hd ⟨hcells, hslots⟩) hS (fun z _ h => hFc z h) hFc (fun u t H1 locs1 ht hvm hw1 hB hz1 hk1 hS1 => ?_)
  obtain ⟨hP1, hD1, hu⟩ := hB
  rw [ht] at hP1
  exact kk u hu H1 locs1 ls hP1 (hD1.weaken (fun k x _ h => hFc x.1 h)) hS1 hl
/-- the reference's constructor, over the class's cells -/
theorem k_init9 {index q : Nat} {u : Nat → Nat} {Pz : xMem → Prop} (hG : kOk G cc own ws rm) (hE : kEnv G u) (hd : decode cc pc = .ok (.invokespecial index, 3)) (hlk : Cond.methodLink own index yX9_init ∈ ws) (h : w_X9_begins M01 (fun M1 => w_X9_adopts M1 Pz)) (hg : GoodIn ws wsX9_init) (hini : Cond.initialized yX9_init.cls ∈ ws) (hinst : Cond.instanceMethod yX9_init ∈ ws) (hR0 : rm_X9_init.frames + 1 ≤ rm.frames ∧ 8 + (1 + 11) + rm_X9_init.locals ≤ rm.locals) (hcat : (rest.map fun v => v.category).sum ≤ 8) (hcells : nc + 8 ≤ rm.cells) (hslots : ns + 1694 ≤ rm.slots) (kk : ∀ (a : Nat → Nat) (M : xMem), Pz M → (∀ i, 100 ≤ i → a i = u i) → a 0 = u 0 → a 81 = q → kW G (xWd a (xC G) M) (nc + 8) (ns + 1694) lv rest (pc + 3)) : kW G (kBl (xC G) 0 81 u ++ [(q, .inr (9, [.int 0, .long 0, .null, .int 0, .int 0, .int 0, .int 0, .int 0, .int 0, .int 0, .int 0, .int 0, .int 0, .int 0, .null, .null, .null, .null, .null, .null, .int 0, .int 0, .int 0, .int 0, .null, .int 0, .int 0]))]) nc ns lv (.ref q :: rest) pc := by
  obtain ⟨p, l, e, R, s, m, args, below, meth, c, nL, A, H0, Q, D, a0, cs, kc, ks⟩ := G
  obtain ⟨hx, hb, hml, hown, hts, hK, hA, hR, hNw, hin⟩ := hG
  obtain ⟨hE1, hE2⟩ := hE
  subst hR
  intro H locs ls hP hD hS hl
  have hF : ∀ z, va_A (kBl cs 0 81 u ++ [(q, .inr (9, [.int 0, .long 0, .null, .int 0, .int 0, .int 0, .int 0, .int 0, .int 0, .int 0, .int 0, .int 0, .int 0, .int 0, .null, .null, .null, .null, .null, .null, .int 0, .int 0, .int 0, .int 0, .null, .int 0, .int 0]))]) H.size z → A z := fun z hz => hz.elim (fun ⟨k, e, hk⟩ => hD.2 k (z, e) hk) (fun hz => hA z (Nat.le_trans hS.1 hz))
  refine va_callv (va_runI (As := []) (rest := rest) ⟨hx, hb, hml, hown, hts⟩ (c_X9_init l D cs H.size q u Pz h) (cwI 0 hts hg rfl rfl rfl (hts _ hini) (hts _ hlk) (hts _ hinst) rfl hy_X9_init hR0) ⟨fun b U g mk z => ⟨z.1, z.2.1, z.2.2.1, va_K.moved (u := U) (U := U.calling g mk b) (Vm.Alike.refl U.vm) z.2.2.2.1, z.2.2.2.2.1, kNw.blind z.2.2.2.2.2.1, xNw.blind z.2.2.2.2.2.2⟩, fun U hU hW => ⟨rfl, by rw [hU], by rw [hU]; exact hP, va_K.moved hW.alike hK, hD.weaken (fun _ _ _ _ => trivial), kNw.warm hW hNw, by rw [hU]; exact xNw.go hW hS hF hE1⟩⟩ rfl rfl hl.1 rfl (lv_room hcat) hd ⟨hcells, hslots⟩) hS (fun z _ h => hF z h) hF (fun z t H1 locs1 ht hvm hw1 hB hz1 hk1 hS1 => ?_)
  obtain ⟨hP1, hD1, h3, h4, h5⟩ := hB
  rw [ht] at hP1
  exact kk z.1 z.2 hw1 h3 h4 h5 H1 locs1 ls hP1 (hD1.weaken (fun k x _ h => hF x.1 h)) hS1 hl
end KL
set_option maxRecDepth 100000 in
set_option maxHeartbeats 8000000 in
/-- from the entry, out of what the numbers must give -/
theorem law_start {p : Program} {e : Env} {s : State} {m : MethodId} {below : List Frame} {meth : Method} {c : Code} (l : Launch) {b L : Nat} {xs : Nat → Int32} (C0 : lw_At p s m meth c b L xs) (h0 : w_X9_begins M01 (fun M1 => w_X9_adopts M1 (fun M => xlp2 (b_L_law_18 (fun r _ => r = 1) L xs) M 0))) : W p l e room_1 s m #[Value.ref b] below meth c s.heap [] 0 0 (lw_Z below #[Value.ref b] s) (entryFrame m ([Value.ref b] : List Value).toArray 4) := by
  obtain ⟨hx, hb, hr, hml, hown, hts0, hX, hbl, hlocks, hgv⟩ := id C0
  obtain ⟨D, cs, hK⟩ := lw_know hts0
  obtain ⟨u0, hu0, hE0⟩ := lw_xNw (A := fun q : Nat => s.heap.size ≤ q) b hts0 hgv (fun a h => Nat.not_le.mpr h)
  have hts : ∀ w ∈ wsL_law, w.before #[Value.ref b] s = true := fun w h => hts0 w (wsL_law_in w h)
  have hl := lv_entry ([.ref b]) (n := 4) (Nat.le_of_ble_eq_true rfl)
  rw [lg_entry_eq]
  have hlx : xl _ 4 [some (.ref b), none, none, none] := xl_of hl rfl rfl
  obtain ⟨G, hGe⟩ : ∃ G : xG, G = (p, l, e, room_1, s, m, #[Value.ref b], below, meth, c, 4, (fun q : Nat => s.heap.size ≤ q), s.heap, lw_Z below #[Value.ref b] s, D, u0, cs, 0, 0) := ⟨_, rfl⟩
  have hG : kOk G cL_law RL wsL_law room_1 := by
    rw [hGe]
    exact ⟨hx, hb, hml, hown, hts, hK, fun q h => h, rfl, lw_kNw hts0, fun h => absurd rfl h⟩
  have main : kW G [] 0 0 [some (.ref b), none, none, none] [] 0 := by
    refine k_new (C := RX8) (T := TX8) (N := 8) (ci := 8) (fs := [.null, .null, .null, .null, .null, .null, .null, .long 0]) hG dL_law_0 (fun v h => List.mem_append_left _ (List.mem_append_left _ (List.mem_append_left _ (List.mem_append_left _ (List.mem_append_left _ (List.mem_append_left _ (List.mem_append_left _ (List.mem_append_left _ (List.mem_append_left _ (List.mem_append_left _ (List.mem_append_right _ h))))))))))) tyX8 tyX8_ok (List.mem_of_getElem? (i := 0) rfl) (List.mem_of_getElem? (i := 1) rfl) (List.mem_of_getElem? (i := 2) rfl) rfl (fun j hj => by rcases (show j = 0 ∨ j = 1 ∨ j = 2 ∨ j = 3 ∨ j = 4 ∨ j = 5 ∨ j = 6 ∨ j = 7 by omega) with rfl | rfl | rfl | rfl | rfl | rfl | rfl | rfl <;> rfl) (Nat.le_of_ble_eq_true rfl) (Nat.le_of_ble_eq_true rfl) (fun q1 => ?_)
    refine k_dup hG dL_law_3 rfl ?_
    refine k_cast (w2 := [(q1, .inr (8, [.null, .null, .null, .null, .null, .null, .null, .long 0]))]) rfl ?_
    refine k_initP hG dL_law_4 (List.mem_of_getElem? (i := 7) rfl) (fun sz => c_X8_init (xL G) (xD G) (xC G) sz q1) gL_law_X8_init rfl ⟨rfl, rfl⟩ (List.mem_of_getElem? (i := 2) rfl) (List.mem_of_getElem? (i := 8) rfl) rfl hy_X8_init ⟨Nat.le_of_ble_eq_true rfl, Nat.le_of_ble_eq_true rfl⟩ (Nat.le_of_ble_eq_true rfl) (Nat.le_of_ble_eq_true rfl) (Nat.le_of_ble_eq_true rfl) (fun u hu => ?_)
    subst hu
    refine k_astore_n hG dL_law_7 rfl (Nat.le_of_ble_eq_true rfl) rfl ?_
    obtain ⟨u1, hu1⟩ : ∃ u1 : Nat → Nat, u1 = fun i => if i < 100 then u i else u0 i := ⟨_, rfl⟩
    have hue : ∀ i, 100 ≤ i → u1 i = u0 i := fun i hi => by rw [hu1]; exact if_neg (by omega)
    have hE : kEnv G u1 := by
      rw [hGe]
      exact ⟨xNw_ext (fun i hi => (hue i hi).symm) hE0, rfl⟩
    refine k_world (w2 := kBl (xC G) 0 81 u1) (fun D H hP => kBl_re (fun i hi => by rw [hu1]; exact (if_pos (by omega)).symm) hP) (fun A hD => kBl_reD (fun i hi => by rw [hu1]; exact (if_pos (by omega)).symm) hD) ?_
    refine k_new (C := RX9) (T := TX9) (N := 27) (ci := 9) (fs := [.int 0, .long 0, .null, .int 0, .int 0, .int 0, .int 0, .int 0, .int 0, .int 0, .int 0, .int 0, .int 0, .int 0, .null, .null, .null, .null, .null, .null, .int 0, .int 0, .int 0, .int 0, .null, .int 0, .int 0]) hG dL_law_8 (fun v h => List.mem_append_left _ (List.mem_append_left _ (List.mem_append_left _ (List.mem_append_left _ (List.mem_append_left _ (List.mem_append_left _ (List.mem_append_left _ (List.mem_append_left _ (List.mem_append_left _ (List.mem_append_right _ h)))))))))) tyX9 tyX9_ok (List.mem_of_getElem? (i := 3) rfl) (List.mem_of_getElem? (i := 4) rfl) (List.mem_of_getElem? (i := 5) rfl) rfl (by decide) (Nat.le_of_ble_eq_true rfl) (Nat.le_of_ble_eq_true rfl) (fun q2 => ?_)
    refine k_dup hG dL_law_11 rfl ?_
    refine k_init9 hG hE dL_law_12 (List.mem_of_getElem? (i := 95) rfl) h0 gL_law_X9_init (List.mem_of_getElem? (i := 5) rfl) (List.mem_of_getElem? (i := 96) rfl) ⟨Nat.le_of_ble_eq_true rfl, Nat.le_of_ble_eq_true rfl⟩ (Nat.le_of_ble_eq_true rfl) (Nat.le_of_ble_eq_true rfl) (Nat.le_of_ble_eq_true rfl) (fun a M hz ha h00 h81 => ?_)
    subst h81
    refine k_astore_n hG dL_law_15 rfl (Nat.le_of_ble_eq_true rfl) rfl ?_
    refine k_iconst (v := (0 : Int32)) hG dL_law_16 (by decide) ?_
    refine k_istore_n hG dL_law_17 rfl (Nat.le_of_ble_eq_true rfl) rfl ?_
    refine k_toX a u1 M hG hE (fun i hi => ha i hi) (Nat.le_of_ble_eq_true rfl) (Nat.le_of_ble_eq_true rfl) (fun _ _ h => h) (fun _ h => h) (fun hXo => ?_)
    have e0 : u 0 = a 0 := by rw [h00, hu1]; exact (if_pos (by omega)).symm
    have e3 : b = a 300 := by rw [ha 300 (by omega), hue 300 (by omega), hu0]
    have ea : xa (xwith G a 90 4309) = a := by rw [hGe]; rfl
    have hScr : xScr (xwith G a 90 4309) L xs := by
      rw [hGe]
      show va_X (a 300) L xs s s.heap ∧ a 300 < s.heap.size ∧ ¬ s.heap.size ≤ a 300
      rw [← e3]
      exact ⟨hX, hbl, Nat.not_le.mpr hbl⟩
    have hLQ : xLawQ (xwith G a 90 4309) (fun r _ => r = 1) := by
      rw [hGe]
      exact ⟨fun _ _ h => h, ⟨b, rfl, rfl⟩, rfl, by decide, by decide, hr, hlocks, fun q => Iff.rfl⟩
    have fin := k_L_law_18 hXo hLQ L xs hScr M 0 hz
    rw [ea] at fin
    rw [e0, e3]
    exact fin
  subst hGe
  exact main s.heap [] _ va_P_nil ⟨fun i j p q h => by simp at h, fun k q h => by simp at h⟩ va_S.rf hlx
