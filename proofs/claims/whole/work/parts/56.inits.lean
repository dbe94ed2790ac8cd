/-! Both constructors. -/
abbrev x0_S : XS := xk 0 0 0 0 0 0 (fun _ => 0) (fun _ => 0) (fun _ => 0) (fun _ => 0) (fun _ => 0) (fun _ => 0)
abbrev y0_S : MS := yk 0 0 0 0 0 0 0 (fun _ => 0) (fun _ => 0) (fun _ => 0) (fun _ => 0) (fun _ => 0)
set_option maxHeartbeats 4000000 in
set_option maxRecDepth 100000 in
theorem kX0_init (l : Launch) (D : va_G) (q0 sz : Nat) : Met l yX0_init wsX0_init ({ frames := 1, cells := 6, slots := 620, locals := 12 }) (va_Pc [.ref q0] (xw_P D vwCl [] [(q0, .inr (0, [.int 0, .int 0, .null, .null, .int 0, .int 0, .null, .null, .int 0, .null, .int 0, .null]))] sz)) (va_Qv (fun u : (Nat → Nat) × ClassId => u.1 0 = q0) (fun u t => va_P D vwCl (wX u.1 u.2 x0_S) t.heap ∧ va_K D vwCl [(u.2, .int)] t ∧ va_D (va_A [(q0, .inr (0, [.int 0, .int 0, .null, .null, .int 0, .int 0, .null, .null, .int 0, .null, .int 0, .null]))] sz) (wX u.1 u.2 x0_S)) (va_A [(q0, .inr (0, [.int 0, .int 0, .null, .null, .int 0, .int 0, .null, .null, .int 0, .null, .int 0, .null]))] sz)) 6 620 (va_A [(q0, .inr (0, [.int 0, .int 0, .null, .null, .int 0, .int 0, .null, .null, .int 0, .null, .int 0, .null]))] sz) := by
  refine Met.ofW (cc := cX0_init) (maxL := 1) (ret := none) (by decide) rfl ?_
  intro p e s m args below meth c s₁ B hml hv
  obtain ⟨rfl, hsz, hP, hK, hD0⟩ := hv
  subst hsz
  have hD := hD0.self (sz := s.heap.size)
  have hA : ∀ z, s.heap.size ≤ z → va_A [(q0, .inr (0, [.int 0, .int 0, .null, .null, .int 0, .int 0, .null, .null, .int 0, .null, .int 0, .null]))] s.heap.size z := fun z h => Or.inr h
  have hS : va_S (va_A [(q0, .inr (0, [.int 0, .int 0, .null, .null, .int 0, .int 0, .null, .null, .int 0, .null, .int 0, .null]))] s.heap.size) s.heap s.heap [] := va_S.rf
  have hx := B.exec
  have hb := B.bytes
  have hr := B.returns
  have hts := atoms_spec (ws := wsX0_init) B.pre
  have hown : s.vm.findClass RX0 = some m.cls := findClass_of_methodNamed B.named
  have hlocks := B.notSynchronized
  have hin9 : meth.name = "<init>" := (name_of_methodNamed B.named B.method).1
  have hinX0 : ∀ w ∈ u_ws RX0 TX0 12, w ∈ wsX0_init := fun w h => List.mem_cons_of_mem _ (bw_X0 w h)
  have hl := lv_entry ([.ref q0]) (n := 1) (Nat.le_of_ble_eq_true rfl)
  rw [lg_entry_eq]
  generalize (lg_sl ([.ref q0]) ++ List.replicate (1 - (lg_sl ([.ref q0])).length) Slot.unset).toArray = ls at hl ⊢
  have hl : lv_has ls 1 [(0, .ref q0)] := hl
  refine lv_aload_n hx hb dX0_init_0 rfl (lv_at hl 0 rfl) ?_
  refine W.objInit hx hb hown (hts _ (List.mem_cons_of_mem _ bw_16)) (hts _ (List.mem_cons_of_mem _ bw_17)) (hts _ (List.mem_cons_of_mem _ bw_18)) rfl (by rw [hml]; exact hl.1) rfl dX0_init_1 (Nat.le_of_ble_eq_true rfl) (Nat.le_of_ble_eq_true rfl) ?_
  refine W.eq (g2 := F0 m 4 ls []) rfl ?_
  refine lv_aload_n hx hb dX0_init_4 rfl (lv_at hl 0 rfl) ?_
  refine lv_bipush (v := 40) hx hb dX0_init_5 (by decide) ?_
  refine va_newa (atype := .int) (ty := .int) (a0 := (40, .inl (fun _ => 0))) (N' := 40) hx hb (hts _ (List.mem_cons_of_mem _ bw_43)) rfl hK hP hD hS hA (fun _ => rfl) (by decide) (by decide) (by decide) (Nat.le_of_ble_eq_true rfl) (Nat.le_of_ble_eq_true rfl) dX0_init_7 (fun a1 cA H hK hP hD hS => ?_)
  have hK : va_K D vwCl [(cA, .int)] s := hK
  have hP : va_P D vwCl [(q0, .inr (0, [.int 0, .int 0, .null, .null, .int 0, .int 0, .null, .null, .int 0, .null, .int 0, .null])), (a1, .inl (cA, 40, .inl (fun _ => 0)))] H := hP
  have hD : va_D (va_A [(q0, .inr (0, [.int 0, .int 0, .null, .null, .int 0, .int 0, .null, .null, .int 0, .null, .int 0, .null]))] s.heap.size) [(q0, .inr (0, [.int 0, .int 0, .null, .null, .int 0, .int 0, .null, .null, .int 0, .null, .int 0, .null])), (a1, .inl (cA, 40, .inl (fun _ => 0)))] := hD
  refine W.widen (k := 1) (n := 40) (by decide) (by decide) ?_
  refine va_putF (D := D) (ci := 0) (v := .ref a1) (ty := .array .int) (C := RX0) (T := TX0) (N := 12) hx hb hts hinX0 tyX0 tyX0_ok nmX0 hown hK hP hD hS 0 rfl rfl 2 (by decide) (hts _ (List.mem_cons_of_mem _ bw_21)) (fun _ h9 => h9) rfl hin9 rfl (by decide +kernel) rfl rfl (Nat.le_of_ble_eq_true rfl) dX0_init_9 (fun H locs hP hD hS => ?_)
  have hP : va_P D vwCl [(q0, .inr (0, [.int 0, .int 0, .ref a1, .null, .int 0, .int 0, .null, .null, .int 0, .null, .int 0, .null])), (a1, .inl (cA, 40, .inl (fun _ => 0)))] H := hP
  have hD : va_D (va_A [(q0, .inr (0, [.int 0, .int 0, .null, .null, .int 0, .int 0, .null, .null, .int 0, .null, .int 0, .null]))] s.heap.size) [(q0, .inr (0, [.int 0, .int 0, .ref a1, .null, .int 0, .int 0, .null, .null, .int 0, .null, .int 0, .null])), (a1, .inl (cA, 40, .inl (fun _ => 0)))] := hD
  refine lv_aload_n hx hb dX0_init_12 rfl (lv_at hl 0 rfl) ?_
  refine lv_bipush (v := 40) hx hb dX0_init_13 (by decide) ?_
  refine va_newa (atype := .int) (ty := .int) (a0 := (40, .inl (fun _ => 0))) (N' := 40) hx hb (hts _ (List.mem_cons_of_mem _ bw_43)) rfl hK hP hD hS hA (fun _ => rfl) (by decide) (by decide) (by decide) (Nat.le_of_ble_eq_true rfl) (Nat.le_of_ble_eq_true rfl) dX0_init_15 (fun a2 cB H hK hP hD hS => ?_)
  obtain rfl : cA = cB := Option.some.inj ((show s.vm.findClass ("[" ++ (FieldType.int).toString) = some cA from (hK.2 0 _ rfl).2).symm.trans (show s.vm.findClass ("[" ++ (FieldType.int).toString) = some cB from (hK.2 1 _ rfl).2))
  have hK : va_K D vwCl [(cA, .int)] s := hK.sub [0] rfl
  have hP : va_P D vwCl [(q0, .inr (0, [.int 0, .int 0, .ref a1, .null, .int 0, .int 0, .null, .null, .int 0, .null, .int 0, .null])), (a1, .inl (cA, 40, .inl (fun _ => 0))), (a2, .inl (cA, 40, .inl (fun _ => 0)))] H := hP
  have hD : va_D (va_A [(q0, .inr (0, [.int 0, .int 0, .null, .null, .int 0, .int 0, .null, .null, .int 0, .null, .int 0, .null]))] s.heap.size) [(q0, .inr (0, [.int 0, .int 0, .ref a1, .null, .int 0, .int 0, .null, .null, .int 0, .null, .int 0, .null])), (a1, .inl (cA, 40, .inl (fun _ => 0))), (a2, .inl (cA, 40, .inl (fun _ => 0)))] := hD
  refine W.widen (k := 2) (n := 80) (by decide) (by decide) ?_
  refine va_putF (D := D) (ci := 0) (v := .ref a2) (ty := .array .int) (C := RX0) (T := TX0) (N := 12) hx hb hts hinX0 tyX0 tyX0_ok nmX0 hown hK hP hD hS 0 rfl rfl 3 (by decide) (hts _ (List.mem_cons_of_mem _ bw_22)) (fun _ h9 => h9) rfl hin9 rfl (by decide +kernel) rfl rfl (Nat.le_of_ble_eq_true rfl) dX0_init_17 (fun H locs hP hD hS => ?_)
  have hP : va_P D vwCl [(q0, .inr (0, [.int 0, .int 0, .ref a1, .ref a2, .int 0, .int 0, .null, .null, .int 0, .null, .int 0, .null])), (a1, .inl (cA, 40, .inl (fun _ => 0))), (a2, .inl (cA, 40, .inl (fun _ => 0)))] H := hP
  have hD : va_D (va_A [(q0, .inr (0, [.int 0, .int 0, .null, .null, .int 0, .int 0, .null, .null, .int 0, .null, .int 0, .null]))] s.heap.size) [(q0, .inr (0, [.int 0, .int 0, .ref a1, .ref a2, .int 0, .int 0, .null, .null, .int 0, .null, .int 0, .null])), (a1, .inl (cA, 40, .inl (fun _ => 0))), (a2, .inl (cA, 40, .inl (fun _ => 0)))] := hD
  refine lv_aload_n hx hb dX0_init_20 rfl (lv_at hl 0 rfl) ?_
  refine lv_sipush (v := 200) hx hb dX0_init_21 (by decide) ?_
  refine va_newa (atype := .int) (ty := .int) (a0 := (200, .inl (fun _ => 0))) (N' := 200) hx hb (hts _ (List.mem_cons_of_mem _ bw_43)) rfl hK hP hD hS hA (fun _ => rfl) (by decide) (by decide) (by decide) (Nat.le_of_ble_eq_true rfl) (Nat.le_of_ble_eq_true rfl) dX0_init_24 (fun a3 cB H hK hP hD hS => ?_)
  obtain rfl : cA = cB := Option.some.inj ((show s.vm.findClass ("[" ++ (FieldType.int).toString) = some cA from (hK.2 0 _ rfl).2).symm.trans (show s.vm.findClass ("[" ++ (FieldType.int).toString) = some cB from (hK.2 1 _ rfl).2))
  have hK : va_K D vwCl [(cA, .int)] s := hK.sub [0] rfl
  have hP : va_P D vwCl [(q0, .inr (0, [.int 0, .int 0, .ref a1, .ref a2, .int 0, .int 0, .null, .null, .int 0, .null, .int 0, .null])), (a1, .inl (cA, 40, .inl (fun _ => 0))), (a2, .inl (cA, 40, .inl (fun _ => 0))), (a3, .inl (cA, 200, .inl (fun _ => 0)))] H := hP
  have hD : va_D (va_A [(q0, .inr (0, [.int 0, .int 0, .null, .null, .int 0, .int 0, .null, .null, .int 0, .null, .int 0, .null]))] s.heap.size) [(q0, .inr (0, [.int 0, .int 0, .ref a1, .ref a2, .int 0, .int 0, .null, .null, .int 0, .null, .int 0, .null])), (a1, .inl (cA, 40, .inl (fun _ => 0))), (a2, .inl (cA, 40, .inl (fun _ => 0))), (a3, .inl (cA, 200, .inl (fun _ => 0)))] := hD
  refine W.widen (k := 3) (n := 280) (by decide) (by decide) ?_
  refine va_putF (D := D) (ci := 0) (v := .ref a3) (ty := .array .int) (C := RX0) (T := TX0) (N := 12) hx hb hts hinX0 tyX0 tyX0_ok nmX0 hown hK hP hD hS 0 rfl rfl 6 (by decide) (hts _ (List.mem_cons_of_mem _ bw_25)) (fun _ h9 => h9) rfl hin9 rfl (by decide +kernel) rfl rfl (Nat.le_of_ble_eq_true rfl) dX0_init_26 (fun H locs hP hD hS => ?_)
  have hP : va_P D vwCl [(q0, .inr (0, [.int 0, .int 0, .ref a1, .ref a2, .int 0, .int 0, .ref a3, .null, .int 0, .null, .int 0, .null])), (a1, .inl (cA, 40, .inl (fun _ => 0))), (a2, .inl (cA, 40, .inl (fun _ => 0))), (a3, .inl (cA, 200, .inl (fun _ => 0)))] H := hP
  have hD : va_D (va_A [(q0, .inr (0, [.int 0, .int 0, .null, .null, .int 0, .int 0, .null, .null, .int 0, .null, .int 0, .null]))] s.heap.size) [(q0, .inr (0, [.int 0, .int 0, .ref a1, .ref a2, .int 0, .int 0, .ref a3, .null, .int 0, .null, .int 0, .null])), (a1, .inl (cA, 40, .inl (fun _ => 0))), (a2, .inl (cA, 40, .inl (fun _ => 0))), (a3, .inl (cA, 200, .inl (fun _ => 0)))] := hD
  refine lv_aload_n hx hb dX0_init_29 rfl (lv_at hl 0 rfl) ?_
  refine lv_sipush (v := 200) hx hb dX0_init_30 (by decide) ?_
  refine va_newa (atype := .int) (ty := .int) (a0 := (200, .inl (fun _ => 0))) (N' := 200) hx hb (hts _ (List.mem_cons_of_mem _ bw_43)) rfl hK hP hD hS hA (fun _ => rfl) (by decide) (by decide) (by decide) (Nat.le_of_ble_eq_true rfl) (Nat.le_of_ble_eq_true rfl) dX0_init_33 (fun a4 cB H hK hP hD hS => ?_)
  obtain rfl : cA = cB := Option.some.inj ((show s.vm.findClass ("[" ++ (FieldType.int).toString) = some cA from (hK.2 0 _ rfl).2).symm.trans (show s.vm.findClass ("[" ++ (FieldType.int).toString) = some cB from (hK.2 1 _ rfl).2))
  have hK : va_K D vwCl [(cA, .int)] s := hK.sub [0] rfl
  have hP : va_P D vwCl [(q0, .inr (0, [.int 0, .int 0, .ref a1, .ref a2, .int 0, .int 0, .ref a3, .null, .int 0, .null, .int 0, .null])), (a1, .inl (cA, 40, .inl (fun _ => 0))), (a2, .inl (cA, 40, .inl (fun _ => 0))), (a3, .inl (cA, 200, .inl (fun _ => 0))), (a4, .inl (cA, 200, .inl (fun _ => 0)))] H := hP
  have hD : va_D (va_A [(q0, .inr (0, [.int 0, .int 0, .null, .null, .int 0, .int 0, .null, .null, .int 0, .null, .int 0, .null]))] s.heap.size) [(q0, .inr (0, [.int 0, .int 0, .ref a1, .ref a2, .int 0, .int 0, .ref a3, .null, .int 0, .null, .int 0, .null])), (a1, .inl (cA, 40, .inl (fun _ => 0))), (a2, .inl (cA, 40, .inl (fun _ => 0))), (a3, .inl (cA, 200, .inl (fun _ => 0))), (a4, .inl (cA, 200, .inl (fun _ => 0)))] := hD
  refine W.widen (k := 4) (n := 480) (by decide) (by decide) ?_
  refine va_putF (D := D) (ci := 0) (v := .ref a4) (ty := .array .int) (C := RX0) (T := TX0) (N := 12) hx hb hts hinX0 tyX0 tyX0_ok nmX0 hown hK hP hD hS 0 rfl rfl 7 (by decide) (hts _ (List.mem_cons_of_mem _ bw_26)) (fun _ h9 => h9) rfl hin9 rfl (by decide +kernel) rfl rfl (Nat.le_of_ble_eq_true rfl) dX0_init_35 (fun H locs hP hD hS => ?_)
  have hP : va_P D vwCl [(q0, .inr (0, [.int 0, .int 0, .ref a1, .ref a2, .int 0, .int 0, .ref a3, .ref a4, .int 0, .null, .int 0, .null])), (a1, .inl (cA, 40, .inl (fun _ => 0))), (a2, .inl (cA, 40, .inl (fun _ => 0))), (a3, .inl (cA, 200, .inl (fun _ => 0))), (a4, .inl (cA, 200, .inl (fun _ => 0)))] H := hP
  have hD : va_D (va_A [(q0, .inr (0, [.int 0, .int 0, .null, .null, .int 0, .int 0, .null, .null, .int 0, .null, .int 0, .null]))] s.heap.size) [(q0, .inr (0, [.int 0, .int 0, .ref a1, .ref a2, .int 0, .int 0, .ref a3, .ref a4, .int 0, .null, .int 0, .null])), (a1, .inl (cA, 40, .inl (fun _ => 0))), (a2, .inl (cA, 40, .inl (fun _ => 0))), (a3, .inl (cA, 200, .inl (fun _ => 0))), (a4, .inl (cA, 200, .inl (fun _ => 0)))] := hD
  refine lv_aload_n hx hb dX0_init_38 rfl (lv_at hl 0 rfl) ?_
  refine lv_bipush (v := 100) hx hb dX0_init_39 (by decide) ?_
  refine va_newa (atype := .int) (ty := .int) (a0 := (100, .inl (fun _ => 0))) (N' := 100) hx hb (hts _ (List.mem_cons_of_mem _ bw_43)) rfl hK hP hD hS hA (fun _ => rfl) (by decide) (by decide) (by decide) (Nat.le_of_ble_eq_true rfl) (Nat.le_of_ble_eq_true rfl) dX0_init_41 (fun a5 cB H hK hP hD hS => ?_)
  obtain rfl : cA = cB := Option.some.inj ((show s.vm.findClass ("[" ++ (FieldType.int).toString) = some cA from (hK.2 0 _ rfl).2).symm.trans (show s.vm.findClass ("[" ++ (FieldType.int).toString) = some cB from (hK.2 1 _ rfl).2))
  have hK : va_K D vwCl [(cA, .int)] s := hK.sub [0] rfl
  have hP : va_P D vwCl [(q0, .inr (0, [.int 0, .int 0, .ref a1, .ref a2, .int 0, .int 0, .ref a3, .ref a4, .int 0, .null, .int 0, .null])), (a1, .inl (cA, 40, .inl (fun _ => 0))), (a2, .inl (cA, 40, .inl (fun _ => 0))), (a3, .inl (cA, 200, .inl (fun _ => 0))), (a4, .inl (cA, 200, .inl (fun _ => 0))), (a5, .inl (cA, 100, .inl (fun _ => 0)))] H := hP
  have hD : va_D (va_A [(q0, .inr (0, [.int 0, .int 0, .null, .null, .int 0, .int 0, .null, .null, .int 0, .null, .int 0, .null]))] s.heap.size) [(q0, .inr (0, [.int 0, .int 0, .ref a1, .ref a2, .int 0, .int 0, .ref a3, .ref a4, .int 0, .null, .int 0, .null])), (a1, .inl (cA, 40, .inl (fun _ => 0))), (a2, .inl (cA, 40, .inl (fun _ => 0))), (a3, .inl (cA, 200, .inl (fun _ => 0))), (a4, .inl (cA, 200, .inl (fun _ => 0))), (a5, .inl (cA, 100, .inl (fun _ => 0)))] := hD
  refine W.widen (k := 5) (n := 580) (by decide) (by decide) ?_
  refine va_putF (D := D) (ci := 0) (v := .ref a5) (ty := .array .int) (C := RX0) (T := TX0) (N := 12) hx hb hts hinX0 tyX0 tyX0_ok nmX0 hown hK hP hD hS 0 rfl rfl 9 (by decide) (hts _ (List.mem_cons_of_mem _ bw_28)) (fun _ h9 => h9) rfl hin9 rfl (by decide +kernel) rfl rfl (Nat.le_of_ble_eq_true rfl) dX0_init_43 (fun H locs hP hD hS => ?_)
  have hP : va_P D vwCl [(q0, .inr (0, [.int 0, .int 0, .ref a1, .ref a2, .int 0, .int 0, .ref a3, .ref a4, .int 0, .ref a5, .int 0, .null])), (a1, .inl (cA, 40, .inl (fun _ => 0))), (a2, .inl (cA, 40, .inl (fun _ => 0))), (a3, .inl (cA, 200, .inl (fun _ => 0))), (a4, .inl (cA, 200, .inl (fun _ => 0))), (a5, .inl (cA, 100, .inl (fun _ => 0)))] H := hP
  have hD : va_D (va_A [(q0, .inr (0, [.int 0, .int 0, .null, .null, .int 0, .int 0, .null, .null, .int 0, .null, .int 0, .null]))] s.heap.size) [(q0, .inr (0, [.int 0, .int 0, .ref a1, .ref a2, .int 0, .int 0, .ref a3, .ref a4, .int 0, .ref a5, .int 0, .null])), (a1, .inl (cA, 40, .inl (fun _ => 0))), (a2, .inl (cA, 40, .inl (fun _ => 0))), (a3, .inl (cA, 200, .inl (fun _ => 0))), (a4, .inl (cA, 200, .inl (fun _ => 0))), (a5, .inl (cA, 100, .inl (fun _ => 0)))] := hD
  refine lv_aload_n hx hb dX0_init_46 rfl (lv_at hl 0 rfl) ?_
  refine lv_bipush (v := 40) hx hb dX0_init_47 (by decide) ?_
  refine va_newa (atype := .int) (ty := .int) (a0 := (40, .inl (fun _ => 0))) (N' := 40) hx hb (hts _ (List.mem_cons_of_mem _ bw_43)) rfl hK hP hD hS hA (fun _ => rfl) (by decide) (by decide) (by decide) (Nat.le_of_ble_eq_true rfl) (Nat.le_of_ble_eq_true rfl) dX0_init_49 (fun a6 cB H hK hP hD hS => ?_)
  obtain rfl : cA = cB := Option.some.inj ((show s.vm.findClass ("[" ++ (FieldType.int).toString) = some cA from (hK.2 0 _ rfl).2).symm.trans (show s.vm.findClass ("[" ++ (FieldType.int).toString) = some cB from (hK.2 1 _ rfl).2))
  have hK : va_K D vwCl [(cA, .int)] s := hK.sub [0] rfl
  have hP : va_P D vwCl [(q0, .inr (0, [.int 0, .int 0, .ref a1, .ref a2, .int 0, .int 0, .ref a3, .ref a4, .int 0, .ref a5, .int 0, .null])), (a1, .inl (cA, 40, .inl (fun _ => 0))), (a2, .inl (cA, 40, .inl (fun _ => 0))), (a3, .inl (cA, 200, .inl (fun _ => 0))), (a4, .inl (cA, 200, .inl (fun _ => 0))), (a5, .inl (cA, 100, .inl (fun _ => 0))), (a6, .inl (cA, 40, .inl (fun _ => 0)))] H := hP
  have hD : va_D (va_A [(q0, .inr (0, [.int 0, .int 0, .null, .null, .int 0, .int 0, .null, .null, .int 0, .null, .int 0, .null]))] s.heap.size) [(q0, .inr (0, [.int 0, .int 0, .ref a1, .ref a2, .int 0, .int 0, .ref a3, .ref a4, .int 0, .ref a5, .int 0, .null])), (a1, .inl (cA, 40, .inl (fun _ => 0))), (a2, .inl (cA, 40, .inl (fun _ => 0))), (a3, .inl (cA, 200, .inl (fun _ => 0))), (a4, .inl (cA, 200, .inl (fun _ => 0))), (a5, .inl (cA, 100, .inl (fun _ => 0))), (a6, .inl (cA, 40, .inl (fun _ => 0)))] := hD
  refine W.widen (k := 6) (n := 620) (by decide) (by decide) ?_
  refine va_putF (D := D) (ci := 0) (v := .ref a6) (ty := .array .int) (C := RX0) (T := TX0) (N := 12) hx hb hts hinX0 tyX0 tyX0_ok nmX0 hown hK hP hD hS 0 rfl rfl 11 (by decide) (hts _ (List.mem_cons_of_mem _ bw_30)) (fun _ h9 => h9) rfl hin9 rfl (by decide +kernel) rfl rfl (Nat.le_of_ble_eq_true rfl) dX0_init_51 (fun H locs hP hD hS => ?_)
  have hP : va_P D vwCl [(q0, .inr (0, [.int 0, .int 0, .ref a1, .ref a2, .int 0, .int 0, .ref a3, .ref a4, .int 0, .ref a5, .int 0, .ref a6])), (a1, .inl (cA, 40, .inl (fun _ => 0))), (a2, .inl (cA, 40, .inl (fun _ => 0))), (a3, .inl (cA, 200, .inl (fun _ => 0))), (a4, .inl (cA, 200, .inl (fun _ => 0))), (a5, .inl (cA, 100, .inl (fun _ => 0))), (a6, .inl (cA, 40, .inl (fun _ => 0)))] H := hP
  have hD : va_D (va_A [(q0, .inr (0, [.int 0, .int 0, .null, .null, .int 0, .int 0, .null, .null, .int 0, .null, .int 0, .null]))] s.heap.size) [(q0, .inr (0, [.int 0, .int 0, .ref a1, .ref a2, .int 0, .int 0, .ref a3, .ref a4, .int 0, .ref a5, .int 0, .ref a6])), (a1, .inl (cA, 40, .inl (fun _ => 0))), (a2, .inl (cA, 40, .inl (fun _ => 0))), (a3, .inl (cA, 200, .inl (fun _ => 0))), (a4, .inl (cA, 200, .inl (fun _ => 0))), (a5, .inl (cA, 100, .inl (fun _ => 0))), (a6, .inl (cA, 40, .inl (fun _ => 0)))] := hD
  exact W.vret hx hb hr (fun t ht hW => ⟨⟨((fun k => [q0, a1, a2, a3, a4, a5, a6].getD k 0), cA), rfl, rfl, by rw [ht]; exact hP, va_K.moved hW.alike hK, hD⟩, hS.F ht⟩) hS.2.2 dX0_init_54
set_option maxHeartbeats 4000000 in
set_option maxRecDepth 100000 in
theorem kX1_init (l : Launch) (D : va_G) (q0 sz : Nat) : Met l yX1_init wsX1_init ({ frames := 1, cells := 5, slots := 680, locals := 12 }) (va_Pc [.ref q0] (xw_P D vwCl [] [(q0, .inr (1, [.int 0, .int 0, .null, .null, .int 0, .int 0, .null, .null, .int 0, .null, .int 0, .int 0]))] sz)) (va_Qv (fun u : (Nat → Nat) × ClassId => u.1 0 = q0) (fun u t => va_P D vwCl (wM u.1 u.2 y0_S) t.heap ∧ va_K D vwCl [(u.2, .int)] t ∧ va_D (va_A [(q0, .inr (1, [.int 0, .int 0, .null, .null, .int 0, .int 0, .null, .null, .int 0, .null, .int 0, .int 0]))] sz) (wM u.1 u.2 y0_S)) (va_A [(q0, .inr (1, [.int 0, .int 0, .null, .null, .int 0, .int 0, .null, .null, .int 0, .null, .int 0, .int 0]))] sz)) 5 680 (va_A [(q0, .inr (1, [.int 0, .int 0, .null, .null, .int 0, .int 0, .null, .null, .int 0, .null, .int 0, .int 0]))] sz) := by
  refine Met.ofW (cc := cX1_init) (maxL := 1) (ret := none) (by decide) rfl ?_
  intro p e s m args below meth c s₁ B hml hv
  obtain ⟨rfl, hsz, hP, hK, hD0⟩ := hv
  subst hsz
  have hD := hD0.self (sz := s.heap.size)
  have hA : ∀ z, s.heap.size ≤ z → va_A [(q0, .inr (1, [.int 0, .int 0, .null, .null, .int 0, .int 0, .null, .null, .int 0, .null, .int 0, .int 0]))] s.heap.size z := fun z h => Or.inr h
  have hS : va_S (va_A [(q0, .inr (1, [.int 0, .int 0, .null, .null, .int 0, .int 0, .null, .null, .int 0, .null, .int 0, .int 0]))] s.heap.size) s.heap s.heap [] := va_S.rf
  have hx := B.exec
  have hb := B.bytes
  have hr := B.returns
  have hts := atoms_spec (ws := wsX1_init) B.pre
  have hown : s.vm.findClass RX1 = some m.cls := findClass_of_methodNamed B.named
  have hlocks := B.notSynchronized
  have hin9 : meth.name = "<init>" := (name_of_methodNamed B.named B.method).1
  have hinX1 : ∀ w ∈ u_ws RX1 TX1 12, w ∈ wsX1_init := fun w h => List.mem_cons_of_mem _ (bw_X1 w h)
  have hl := lv_entry ([.ref q0]) (n := 1) (Nat.le_of_ble_eq_true rfl)
  rw [lg_entry_eq]
  generalize (lg_sl ([.ref q0]) ++ List.replicate (1 - (lg_sl ([.ref q0])).length) Slot.unset).toArray = ls at hl ⊢
  have hl : lv_has ls 1 [(0, .ref q0)] := hl
  refine lv_aload_n hx hb dX1_init_0 rfl (lv_at hl 0 rfl) ?_
  refine W.objInit hx hb hown (hts _ (List.mem_cons_of_mem _ bw_257)) (hts _ (List.mem_cons_of_mem _ bw_17)) (hts _ (List.mem_cons_of_mem _ bw_18)) rfl (by rw [hml]; exact hl.1) rfl dX1_init_1 (Nat.le_of_ble_eq_true rfl) (Nat.le_of_ble_eq_true rfl) ?_
  refine W.eq (g2 := F0 m 4 ls []) rfl ?_
  refine lv_aload_n hx hb dX1_init_4 rfl (lv_at hl 0 rfl) ?_
  refine lv_bipush (v := 90) hx hb dX1_init_5 (by decide) ?_
  refine va_newa (atype := .int) (ty := .int) (a0 := (90, .inl (fun _ => 0))) (N' := 90) hx hb (hts _ (List.mem_cons_of_mem _ bw_43)) rfl hK hP hD hS hA (fun _ => rfl) (by decide) (by decide) (by decide) (Nat.le_of_ble_eq_true rfl) (Nat.le_of_ble_eq_true rfl) dX1_init_7 (fun a1 cA H hK hP hD hS => ?_)
  have hK : va_K D vwCl [(cA, .int)] s := hK
  have hP : va_P D vwCl [(q0, .inr (1, [.int 0, .int 0, .null, .null, .int 0, .int 0, .null, .null, .int 0, .null, .int 0, .int 0])), (a1, .inl (cA, 90, .inl (fun _ => 0)))] H := hP
  have hD : va_D (va_A [(q0, .inr (1, [.int 0, .int 0, .null, .null, .int 0, .int 0, .null, .null, .int 0, .null, .int 0, .int 0]))] s.heap.size) [(q0, .inr (1, [.int 0, .int 0, .null, .null, .int 0, .int 0, .null, .null, .int 0, .null, .int 0, .int 0])), (a1, .inl (cA, 90, .inl (fun _ => 0)))] := hD
  refine W.widen (k := 1) (n := 90) (by decide) (by decide) ?_
  refine va_putF (D := D) (ci := 1) (v := .ref a1) (ty := .array .int) (C := RX1) (T := TX1) (N := 12) hx hb hts hinX1 tyX1 tyX1_ok nmX1 hown hK hP hD hS 0 rfl rfl 2 (by decide) (hts _ (List.mem_cons_of_mem _ bw_260)) (fun _ h9 => h9) rfl hin9 rfl (by decide +kernel) rfl rfl (Nat.le_of_ble_eq_true rfl) dX1_init_9 (fun H locs hP hD hS => ?_)
  have hP : va_P D vwCl [(q0, .inr (1, [.int 0, .int 0, .ref a1, .null, .int 0, .int 0, .null, .null, .int 0, .null, .int 0, .int 0])), (a1, .inl (cA, 90, .inl (fun _ => 0)))] H := hP
  have hD : va_D (va_A [(q0, .inr (1, [.int 0, .int 0, .null, .null, .int 0, .int 0, .null, .null, .int 0, .null, .int 0, .int 0]))] s.heap.size) [(q0, .inr (1, [.int 0, .int 0, .ref a1, .null, .int 0, .int 0, .null, .null, .int 0, .null, .int 0, .int 0])), (a1, .inl (cA, 90, .inl (fun _ => 0)))] := hD
  refine lv_aload_n hx hb dX1_init_12 rfl (lv_at hl 0 rfl) ?_
  refine lv_bipush (v := 90) hx hb dX1_init_13 (by decide) ?_
  refine va_newa (atype := .int) (ty := .int) (a0 := (90, .inl (fun _ => 0))) (N' := 90) hx hb (hts _ (List.mem_cons_of_mem _ bw_43)) rfl hK hP hD hS hA (fun _ => rfl) (by decide) (by decide) (by decide) (Nat.le_of_ble_eq_true rfl) (Nat.le_of_ble_eq_true rfl) dX1_init_15 (fun a2 cB H hK hP hD hS => ?_)
  obtain rfl : cA = cB := Option.some.inj ((show s.vm.findClass ("[" ++ (FieldType.int).toString) = some cA from (hK.2 0 _ rfl).2).symm.trans (show s.vm.findClass ("[" ++ (FieldType.int).toString) = some cB from (hK.2 1 _ rfl).2))
  have hK : va_K D vwCl [(cA, .int)] s := hK.sub [0] rfl
  have hP : va_P D vwCl [(q0, .inr (1, [.int 0, .int 0, .ref a1, .null, .int 0, .int 0, .null, .null, .int 0, .null, .int 0, .int 0])), (a1, .inl (cA, 90, .inl (fun _ => 0))), (a2, .inl (cA, 90, .inl (fun _ => 0)))] H := hP
  have hD : va_D (va_A [(q0, .inr (1, [.int 0, .int 0, .null, .null, .int 0, .int 0, .null, .null, .int 0, .null, .int 0, .int 0]))] s.heap.size) [(q0, .inr (1, [.int 0, .int 0, .ref a1, .null, .int 0, .int 0, .null, .null, .int 0, .null, .int 0, .int 0])), (a1, .inl (cA, 90, .inl (fun _ => 0))), (a2, .inl (cA, 90, .inl (fun _ => 0)))] := hD
  refine W.widen (k := 2) (n := 180) (by decide) (by decide) ?_
  refine va_putF (D := D) (ci := 1) (v := .ref a2) (ty := .array .int) (C := RX1) (T := TX1) (N := 12) hx hb hts hinX1 tyX1 tyX1_ok nmX1 hown hK hP hD hS 0 rfl rfl 3 (by decide) (hts _ (List.mem_cons_of_mem _ bw_261)) (fun _ h9 => h9) rfl hin9 rfl (by decide +kernel) rfl rfl (Nat.le_of_ble_eq_true rfl) dX1_init_17 (fun H locs hP hD hS => ?_)
  have hP : va_P D vwCl [(q0, .inr (1, [.int 0, .int 0, .ref a1, .ref a2, .int 0, .int 0, .null, .null, .int 0, .null, .int 0, .int 0])), (a1, .inl (cA, 90, .inl (fun _ => 0))), (a2, .inl (cA, 90, .inl (fun _ => 0)))] H := hP
  have hD : va_D (va_A [(q0, .inr (1, [.int 0, .int 0, .null, .null, .int 0, .int 0, .null, .null, .int 0, .null, .int 0, .int 0]))] s.heap.size) [(q0, .inr (1, [.int 0, .int 0, .ref a1, .ref a2, .int 0, .int 0, .null, .null, .int 0, .null, .int 0, .int 0])), (a1, .inl (cA, 90, .inl (fun _ => 0))), (a2, .inl (cA, 90, .inl (fun _ => 0)))] := hD
  refine lv_aload_n hx hb dX1_init_20 rfl (lv_at hl 0 rfl) ?_
  refine lv_sipush (v := 200) hx hb dX1_init_21 (by decide) ?_
  refine va_newa (atype := .int) (ty := .int) (a0 := (200, .inl (fun _ => 0))) (N' := 200) hx hb (hts _ (List.mem_cons_of_mem _ bw_43)) rfl hK hP hD hS hA (fun _ => rfl) (by decide) (by decide) (by decide) (Nat.le_of_ble_eq_true rfl) (Nat.le_of_ble_eq_true rfl) dX1_init_24 (fun a3 cB H hK hP hD hS => ?_)
  obtain rfl : cA = cB := Option.some.inj ((show s.vm.findClass ("[" ++ (FieldType.int).toString) = some cA from (hK.2 0 _ rfl).2).symm.trans (show s.vm.findClass ("[" ++ (FieldType.int).toString) = some cB from (hK.2 1 _ rfl).2))
  have hK : va_K D vwCl [(cA, .int)] s := hK.sub [0] rfl
  have hP : va_P D vwCl [(q0, .inr (1, [.int 0, .int 0, .ref a1, .ref a2, .int 0, .int 0, .null, .null, .int 0, .null, .int 0, .int 0])), (a1, .inl (cA, 90, .inl (fun _ => 0))), (a2, .inl (cA, 90, .inl (fun _ => 0))), (a3, .inl (cA, 200, .inl (fun _ => 0)))] H := hP
  have hD : va_D (va_A [(q0, .inr (1, [.int 0, .int 0, .null, .null, .int 0, .int 0, .null, .null, .int 0, .null, .int 0, .int 0]))] s.heap.size) [(q0, .inr (1, [.int 0, .int 0, .ref a1, .ref a2, .int 0, .int 0, .null, .null, .int 0, .null, .int 0, .int 0])), (a1, .inl (cA, 90, .inl (fun _ => 0))), (a2, .inl (cA, 90, .inl (fun _ => 0))), (a3, .inl (cA, 200, .inl (fun _ => 0)))] := hD
  refine W.widen (k := 3) (n := 380) (by decide) (by decide) ?_
  refine va_putF (D := D) (ci := 1) (v := .ref a3) (ty := .array .int) (C := RX1) (T := TX1) (N := 12) hx hb hts hinX1 tyX1 tyX1_ok nmX1 hown hK hP hD hS 0 rfl rfl 6 (by decide) (hts _ (List.mem_cons_of_mem _ bw_264)) (fun _ h9 => h9) rfl hin9 rfl (by decide +kernel) rfl rfl (Nat.le_of_ble_eq_true rfl) dX1_init_26 (fun H locs hP hD hS => ?_)
  have hP : va_P D vwCl [(q0, .inr (1, [.int 0, .int 0, .ref a1, .ref a2, .int 0, .int 0, .ref a3, .null, .int 0, .null, .int 0, .int 0])), (a1, .inl (cA, 90, .inl (fun _ => 0))), (a2, .inl (cA, 90, .inl (fun _ => 0))), (a3, .inl (cA, 200, .inl (fun _ => 0)))] H := hP
  have hD : va_D (va_A [(q0, .inr (1, [.int 0, .int 0, .null, .null, .int 0, .int 0, .null, .null, .int 0, .null, .int 0, .int 0]))] s.heap.size) [(q0, .inr (1, [.int 0, .int 0, .ref a1, .ref a2, .int 0, .int 0, .ref a3, .null, .int 0, .null, .int 0, .int 0])), (a1, .inl (cA, 90, .inl (fun _ => 0))), (a2, .inl (cA, 90, .inl (fun _ => 0))), (a3, .inl (cA, 200, .inl (fun _ => 0)))] := hD
  refine lv_aload_n hx hb dX1_init_29 rfl (lv_at hl 0 rfl) ?_
  refine lv_sipush (v := 200) hx hb dX1_init_30 (by decide) ?_
  refine va_newa (atype := .int) (ty := .int) (a0 := (200, .inl (fun _ => 0))) (N' := 200) hx hb (hts _ (List.mem_cons_of_mem _ bw_43)) rfl hK hP hD hS hA (fun _ => rfl) (by decide) (by decide) (by decide) (Nat.le_of_ble_eq_true rfl) (Nat.le_of_ble_eq_true rfl) dX1_init_33 (fun a4 cB H hK hP hD hS => ?_)
  obtain rfl : cA = cB := Option.some.inj ((show s.vm.findClass ("[" ++ (FieldType.int).toString) = some cA from (hK.2 0 _ rfl).2).symm.trans (show s.vm.findClass ("[" ++ (FieldType.int).toString) = some cB from (hK.2 1 _ rfl).2))
  have hK : va_K D vwCl [(cA, .int)] s := hK.sub [0] rfl
  have hP : va_P D vwCl [(q0, .inr (1, [.int 0, .int 0, .ref a1, .ref a2, .int 0, .int 0, .ref a3, .null, .int 0, .null, .int 0, .int 0])), (a1, .inl (cA, 90, .inl (fun _ => 0))), (a2, .inl (cA, 90, .inl (fun _ => 0))), (a3, .inl (cA, 200, .inl (fun _ => 0))), (a4, .inl (cA, 200, .inl (fun _ => 0)))] H := hP
  have hD : va_D (va_A [(q0, .inr (1, [.int 0, .int 0, .null, .null, .int 0, .int 0, .null, .null, .int 0, .null, .int 0, .int 0]))] s.heap.size) [(q0, .inr (1, [.int 0, .int 0, .ref a1, .ref a2, .int 0, .int 0, .ref a3, .null, .int 0, .null, .int 0, .int 0])), (a1, .inl (cA, 90, .inl (fun _ => 0))), (a2, .inl (cA, 90, .inl (fun _ => 0))), (a3, .inl (cA, 200, .inl (fun _ => 0))), (a4, .inl (cA, 200, .inl (fun _ => 0)))] := hD
  refine W.widen (k := 4) (n := 580) (by decide) (by decide) ?_
  refine va_putF (D := D) (ci := 1) (v := .ref a4) (ty := .array .int) (C := RX1) (T := TX1) (N := 12) hx hb hts hinX1 tyX1 tyX1_ok nmX1 hown hK hP hD hS 0 rfl rfl 7 (by decide) (hts _ (List.mem_cons_of_mem _ bw_265)) (fun _ h9 => h9) rfl hin9 rfl (by decide +kernel) rfl rfl (Nat.le_of_ble_eq_true rfl) dX1_init_35 (fun H locs hP hD hS => ?_)
  have hP : va_P D vwCl [(q0, .inr (1, [.int 0, .int 0, .ref a1, .ref a2, .int 0, .int 0, .ref a3, .ref a4, .int 0, .null, .int 0, .int 0])), (a1, .inl (cA, 90, .inl (fun _ => 0))), (a2, .inl (cA, 90, .inl (fun _ => 0))), (a3, .inl (cA, 200, .inl (fun _ => 0))), (a4, .inl (cA, 200, .inl (fun _ => 0)))] H := hP
  have hD : va_D (va_A [(q0, .inr (1, [.int 0, .int 0, .null, .null, .int 0, .int 0, .null, .null, .int 0, .null, .int 0, .int 0]))] s.heap.size) [(q0, .inr (1, [.int 0, .int 0, .ref a1, .ref a2, .int 0, .int 0, .ref a3, .ref a4, .int 0, .null, .int 0, .int 0])), (a1, .inl (cA, 90, .inl (fun _ => 0))), (a2, .inl (cA, 90, .inl (fun _ => 0))), (a3, .inl (cA, 200, .inl (fun _ => 0))), (a4, .inl (cA, 200, .inl (fun _ => 0)))] := hD
  refine lv_aload_n hx hb dX1_init_38 rfl (lv_at hl 0 rfl) ?_
  refine lv_bipush (v := 100) hx hb dX1_init_39 (by decide) ?_
  refine va_newa (atype := .int) (ty := .int) (a0 := (100, .inl (fun _ => 0))) (N' := 100) hx hb (hts _ (List.mem_cons_of_mem _ bw_43)) rfl hK hP hD hS hA (fun _ => rfl) (by decide) (by decide) (by decide) (Nat.le_of_ble_eq_true rfl) (Nat.le_of_ble_eq_true rfl) dX1_init_41 (fun a5 cB H hK hP hD hS => ?_)
  obtain rfl : cA = cB := Option.some.inj ((show s.vm.findClass ("[" ++ (FieldType.int).toString) = some cA from (hK.2 0 _ rfl).2).symm.trans (show s.vm.findClass ("[" ++ (FieldType.int).toString) = some cB from (hK.2 1 _ rfl).2))
  have hK : va_K D vwCl [(cA, .int)] s := hK.sub [0] rfl
  have hP : va_P D vwCl [(q0, .inr (1, [.int 0, .int 0, .ref a1, .ref a2, .int 0, .int 0, .ref a3, .ref a4, .int 0, .null, .int 0, .int 0])), (a1, .inl (cA, 90, .inl (fun _ => 0))), (a2, .inl (cA, 90, .inl (fun _ => 0))), (a3, .inl (cA, 200, .inl (fun _ => 0))), (a4, .inl (cA, 200, .inl (fun _ => 0))), (a5, .inl (cA, 100, .inl (fun _ => 0)))] H := hP
  have hD : va_D (va_A [(q0, .inr (1, [.int 0, .int 0, .null, .null, .int 0, .int 0, .null, .null, .int 0, .null, .int 0, .int 0]))] s.heap.size) [(q0, .inr (1, [.int 0, .int 0, .ref a1, .ref a2, .int 0, .int 0, .ref a3, .ref a4, .int 0, .null, .int 0, .int 0])), (a1, .inl (cA, 90, .inl (fun _ => 0))), (a2, .inl (cA, 90, .inl (fun _ => 0))), (a3, .inl (cA, 200, .inl (fun _ => 0))), (a4, .inl (cA, 200, .inl (fun _ => 0))), (a5, .inl (cA, 100, .inl (fun _ => 0)))] := hD
  refine W.widen (k := 5) (n := 680) (by decide) (by decide) ?_
  refine va_putF (D := D) (ci := 1) (v := .ref a5) (ty := .array .int) (C := RX1) (T := TX1) (N := 12) hx hb hts hinX1 tyX1 tyX1_ok nmX1 hown hK hP hD hS 0 rfl rfl 9 (by decide) (hts _ (List.mem_cons_of_mem _ bw_267)) (fun _ h9 => h9) rfl hin9 rfl (by decide +kernel) rfl rfl (Nat.le_of_ble_eq_true rfl) dX1_init_43 (fun H locs hP hD hS => ?_)
  have hP : va_P D vwCl [(q0, .inr (1, [.int 0, .int 0, .ref a1, .ref a2, .int 0, .int 0, .ref a3, .ref a4, .int 0, .ref a5, .int 0, .int 0])), (a1, .inl (cA, 90, .inl (fun _ => 0))), (a2, .inl (cA, 90, .inl (fun _ => 0))), (a3, .inl (cA, 200, .inl (fun _ => 0))), (a4, .inl (cA, 200, .inl (fun _ => 0))), (a5, .inl (cA, 100, .inl (fun _ => 0)))] H := hP
  have hD : va_D (va_A [(q0, .inr (1, [.int 0, .int 0, .null, .null, .int 0, .int 0, .null, .null, .int 0, .null, .int 0, .int 0]))] s.heap.size) [(q0, .inr (1, [.int 0, .int 0, .ref a1, .ref a2, .int 0, .int 0, .ref a3, .ref a4, .int 0, .ref a5, .int 0, .int 0])), (a1, .inl (cA, 90, .inl (fun _ => 0))), (a2, .inl (cA, 90, .inl (fun _ => 0))), (a3, .inl (cA, 200, .inl (fun _ => 0))), (a4, .inl (cA, 200, .inl (fun _ => 0))), (a5, .inl (cA, 100, .inl (fun _ => 0)))] := hD
  exact W.vret hx hb hr (fun t ht hW => ⟨⟨((fun k => [q0, a1, a2, a3, a4, a5].getD k 0), cA), rfl, rfl, by rw [ht]; exact hP, va_K.moved hW.alike hK, hD⟩, hS.F ht⟩) hS.2.2 dX1_init_46
