/-! The helper of the law for close. -/
set_option maxHeartbeats 4000000 in
set_option maxRecDepth 100000 in
theorem hL_close_not (l : Launch) (D : va_G) (q : Nat → Nat) (cA cL : ClassId) (a : Nat) (f : Nat → Int64) (S : XS) (hok : okX S) (hl9 : l.stackTraces = false) (hcan : q_can (vXL S) (xd S) = false) (sz : Nat) : xh_M l yL_close wsL_close ({ frames := 3, cells := 1, slots := 6, locals := 66 }) D [.ref (q 0), .ref a] q cA a cL S f sz (fun r z => r = 0 ∧ ∃ r1 : Int32, z.2 0 = Int32.toInt64 r1 ∧ r1 = -1 ∧ z.1 = (xk 0 (xt S) (xn S) (xm S) (xh S) (if k_taut (xd S) = false ∧ xg S < 100 then xg S + 1 else xg S) (xse S) (xnu S) (xes S) (xel S) (if k_taut (xd S) = false ∧ xg S < 100 then upd (xgi S) (xg S) (xd S) else xgi S) (xre S))) := by
  refine va_MetW (cc := cL_close) (maxL := 3) (ret := (some .int)) (hh := [(0, 8, 11, 19)]) (by decide) rfl ?_
  intro p e s m args below meth c s₁ B hml hv
  obtain ⟨rfl, ⟨hsz, hP, hK, hD0⟩, hX⟩ := hv
  subst hsz
  have hD := hD0.self (sz := s.heap.size)
  have hA : ∀ z, s.heap.size ≤ z → va_A (wX q cA S ++ xl a cL f) s.heap.size z := fun z h => Or.inr h
  have hS : va_S (va_A (wX q cA S ++ xl a cL f) s.heap.size) s.heap s.heap [] := va_S.rf
  have hx := B.exec
  have hb := B.bytes
  have hr := B.returns
  have hts := atoms_spec (ws := wsL_close) B.pre
  have hown : s.vm.findClass RL = some m.cls := findClass_of_methodNamed B.named
  have hlocks := B.notSynchronized
  have hK1 : va_K D vwCl [(cA, .int)] s := hK.sub [0] rfl
  have htb := vx_table (x := yL_close) B (hts _ List.mem_cons_self)
  have hl := lv_entry ([.ref (q 0), .ref a]) (n := 3) (Nat.le_of_ble_eq_true rfl)
  rw [lg_entry_eq]
  generalize (lg_sl ([.ref (q 0), .ref a]) ++ List.replicate (3 - (lg_sl ([.ref (q 0), .ref a])).length) Slot.unset).toArray = ls at hl ⊢
  have hl : lv_has ls 3 [(0, .ref (q 0)), (1, .ref a)] := hl
  refine lv_aload_n hx hb dL_close_0 rfl (lv_at hl 1 rfl) ?_
  refine lv_iconst (v := 0) hx hb dL_close_1 (by decide) ?_
  refine lv_aload_n hx hb dL_close_2 rfl (lv_at hl 0 rfl) ?_
  refine xp_wi (ws := wX q cA S) (pl := xl a cL f) (As := []) (rest := [.int 0, .ref a]) ⟨hx, hb, hml, hown, hts⟩ (kX0_close_not l D q cA S hok hcan _) (cwV 0 hts (gd_V bw_112 bw_113 bw_114 bw_1 bw_115) rfl rfl rfl (by decide +kernel) ⟨Nat.le_of_ble_eq_true rfl, Nat.le_of_ble_eq_true rfl⟩) (va_recv (ci := 0) (q0 := 0) hK hP rfl rfl) hP hK1 hD hS hA rfl hl.1 rfl (Nat.le_of_ble_eq_true rfl) dL_close_3 ⟨Nat.zero_le _, Nat.zero_le _⟩ (fun r1 u1 H locs hu hP hD hS => ?_)
  have hP : va_P D vwCl (wX q cA u1 ++ xl a cL f) H := hP
  have hD : va_D (va_A (wX q cA S ++ xl a cL f) s.heap.size) (wX q cA u1 ++ xl a cL f) := hD
  refine lv_i2l (v := Int32.toInt64 r1) hx hb dL_close_6 rfl ?_
  refine va_last hx hb hK hP hD hS 7 1 rfl rfl (i := 0) (x := Int32.toInt64 r1) (show ¬ ((0 : Int32) < 0 ∨ 1 ≤ (0 : Int32).toNatClampNeg) from by decide) dL_close_7 (fun H locs hP hD hS => ?_)
  have hP : va_P D vwCl (wX q cA u1 ++ xl a cL (vp_updL f 0 (Int32.toInt64 r1))) H := hP
  have hD : va_D (va_A (wX q cA S ++ xl a cL f) s.heap.size) (wX q cA u1 ++ xl a cL (vp_updL f 0 (Int32.toInt64 r1))) := hD
  refine lv_goto (tgt := 14) hx hb dL_close_8 (by decide) ?_
  refine lv_iconst (v := 0) hx hb dL_close_14 (by decide) ?_
  have hpo : (fun (r : Int32) (z : XS × (Nat → Int64)) => r = 0 ∧ ∃ r1 : Int32, z.2 0 = Int32.toInt64 r1 ∧ r1 = -1 ∧ z.1 = (xk 0 (xt S) (xn S) (xm S) (xh S) (if k_taut (xd S) = false ∧ xg S < 100 then xg S + 1 else xg S) (xse S) (xnu S) (xes S) (xel S) (if k_taut (xd S) = false ∧ xg S < 100 then upd (xgi S) (xg S) (xd S) else xgi S) (xre S))) 0 (u1, vp_updL f 0 (Int32.toInt64 r1)) := ⟨rfl, r1, (show vp_updL f 0 _ 0 = _ from pk_uLs), hu⟩
  refine xw_wide (k := 1) (n9 := 6) (Nat.zero_le _) (Nat.zero_le _) ?_
  exact W.iret (v := 0) hx hb hr (fun t ht hW => ⟨⟨0, (u1, vp_updL f 0 (Int32.toInt64 r1)), rfl, hpo, by rw [ht]; exact hP, va_K.moved hW.alike hK, hD⟩, hS.F ht⟩) hS.2.2 dL_close_15

set_option maxHeartbeats 4000000 in
set_option maxRecDepth 100000 in
theorem hL_close_made (l : Launch) (D : va_G) (q : Nat → Nat) (cA cL : ClassId) (a : Nat) (f : Nat → Int64) (S : XS) (hok : okX S) (hl9 : l.stackTraces = false) (hcan : q_can (vXL S) (xd S) = true) (hn9 : xn S < 40) (sz : Nat) : xh_M l yL_close wsL_close ({ frames := 3, cells := 1, slots := 6, locals := 66 }) D [.ref (q 0), .ref a] q cA a cL S f sz (fun r z => r = 0 ∧ ∃ r1 : Int32, z.2 0 = Int32.toInt64 r1 ∧ r1 = xm S ∧ z.1 = (xk 0 (xt S) (xn S + 1) (xm S + 1) (xh S) (if k_taut (xd S) = false ∧ xg S < 100 then xg S + 1 else xg S) (upd (xse S) (xn S) (xd S)) (upd (xnu S) (xn S) (xm S)) (xes S) (xel S) (if k_taut (xd S) = false ∧ xg S < 100 then upd (xgi S) (xg S) (xd S) else xgi S) (xre S))) := by
  refine va_MetW (cc := cL_close) (maxL := 3) (ret := (some .int)) (hh := [(0, 8, 11, 19)]) (by decide) rfl ?_
  intro p e s m args below meth c s₁ B hml hv
  obtain ⟨rfl, ⟨hsz, hP, hK, hD0⟩, hX⟩ := hv
  subst hsz
  have hD := hD0.self (sz := s.heap.size)
  have hA : ∀ z, s.heap.size ≤ z → va_A (wX q cA S ++ xl a cL f) s.heap.size z := fun z h => Or.inr h
  have hS : va_S (va_A (wX q cA S ++ xl a cL f) s.heap.size) s.heap s.heap [] := va_S.rf
  have hx := B.exec
  have hb := B.bytes
  have hr := B.returns
  have hts := atoms_spec (ws := wsL_close) B.pre
  have hown : s.vm.findClass RL = some m.cls := findClass_of_methodNamed B.named
  have hlocks := B.notSynchronized
  have hK1 : va_K D vwCl [(cA, .int)] s := hK.sub [0] rfl
  have htb := vx_table (x := yL_close) B (hts _ List.mem_cons_self)
  have hl := lv_entry ([.ref (q 0), .ref a]) (n := 3) (Nat.le_of_ble_eq_true rfl)
  rw [lg_entry_eq]
  generalize (lg_sl ([.ref (q 0), .ref a]) ++ List.replicate (3 - (lg_sl ([.ref (q 0), .ref a])).length) Slot.unset).toArray = ls at hl ⊢
  have hl : lv_has ls 3 [(0, .ref (q 0)), (1, .ref a)] := hl
  refine lv_aload_n hx hb dL_close_0 rfl (lv_at hl 1 rfl) ?_
  refine lv_iconst (v := 0) hx hb dL_close_1 (by decide) ?_
  refine lv_aload_n hx hb dL_close_2 rfl (lv_at hl 0 rfl) ?_
  refine xp_wi (ws := wX q cA S) (pl := xl a cL f) (As := []) (rest := [.int 0, .ref a]) ⟨hx, hb, hml, hown, hts⟩ (kX0_close_made l D q cA S hok hcan hn9 _) (cwV 0 hts (gd_V bw_112 bw_113 bw_114 bw_1 bw_115) rfl rfl rfl (by decide +kernel) ⟨Nat.le_of_ble_eq_true rfl, Nat.le_of_ble_eq_true rfl⟩) (va_recv (ci := 0) (q0 := 0) hK hP rfl rfl) hP hK1 hD hS hA rfl hl.1 rfl (Nat.le_of_ble_eq_true rfl) dL_close_3 ⟨Nat.zero_le _, Nat.zero_le _⟩ (fun r1 u1 H locs hu hP hD hS => ?_)
  have hP : va_P D vwCl (wX q cA u1 ++ xl a cL f) H := hP
  have hD : va_D (va_A (wX q cA S ++ xl a cL f) s.heap.size) (wX q cA u1 ++ xl a cL f) := hD
  refine lv_i2l (v := Int32.toInt64 r1) hx hb dL_close_6 rfl ?_
  refine va_last hx hb hK hP hD hS 7 1 rfl rfl (i := 0) (x := Int32.toInt64 r1) (show ¬ ((0 : Int32) < 0 ∨ 1 ≤ (0 : Int32).toNatClampNeg) from by decide) dL_close_7 (fun H locs hP hD hS => ?_)
  have hP : va_P D vwCl (wX q cA u1 ++ xl a cL (vp_updL f 0 (Int32.toInt64 r1))) H := hP
  have hD : va_D (va_A (wX q cA S ++ xl a cL f) s.heap.size) (wX q cA u1 ++ xl a cL (vp_updL f 0 (Int32.toInt64 r1))) := hD
  refine lv_goto (tgt := 14) hx hb dL_close_8 (by decide) ?_
  refine lv_iconst (v := 0) hx hb dL_close_14 (by decide) ?_
  have hpo : (fun (r : Int32) (z : XS × (Nat → Int64)) => r = 0 ∧ ∃ r1 : Int32, z.2 0 = Int32.toInt64 r1 ∧ r1 = xm S ∧ z.1 = (xk 0 (xt S) (xn S + 1) (xm S + 1) (xh S) (if k_taut (xd S) = false ∧ xg S < 100 then xg S + 1 else xg S) (upd (xse S) (xn S) (xd S)) (upd (xnu S) (xn S) (xm S)) (xes S) (xel S) (if k_taut (xd S) = false ∧ xg S < 100 then upd (xgi S) (xg S) (xd S) else xgi S) (xre S))) 0 (u1, vp_updL f 0 (Int32.toInt64 r1)) := ⟨rfl, r1, (show vp_updL f 0 _ 0 = _ from pk_uLs), hu⟩
  refine xw_wide (k := 1) (n9 := 6) (Nat.zero_le _) (Nat.zero_le _) ?_
  exact W.iret (v := 0) hx hb hr (fun t ht hW => ⟨⟨0, (u1, vp_updL f 0 (Int32.toInt64 r1)), rfl, hpo, by rw [ht]; exact hP, va_K.moved hW.alike hK, hD⟩, hS.F ht⟩) hS.2.2 dL_close_15

set_option maxHeartbeats 4000000 in
set_option maxRecDepth 100000 in
theorem hL_close_full (l : Launch) (D : va_G) (q : Nat → Nat) (cA cL : ClassId) (a : Nat) (f : Nat → Int64) (S : XS) (hok : okX S) (hl9 : l.stackTraces = false) (hcan : q_can (vXL S) (xd S) = true) (hfull : ¬ xn S < 40) (sz : Nat) : xh_M l yL_close wsL_close ({ frames := 7, cells := 1, slots := 6, locals := 104 }) D [.ref (q 0), .ref a] q cA a cL S f sz (fun r z => r = 1 ∧ z.1 = (xk 0 (xt S) (xn S) (xm S) (xh S) (xg S) (xse S) (xnu S) (xes S) (xel S) (xgi S) (xre S))) := by
  refine va_MetW (cc := cL_close) (maxL := 3) (ret := (some .int)) (hh := [(0, 8, 11, 19)]) (by decide) rfl ?_
  intro p e s m args below meth c s₁ B hml hv
  obtain ⟨rfl, ⟨hsz, hP, hK, hD0⟩, hX⟩ := hv
  subst hsz
  have hD := hD0.self (sz := s.heap.size)
  have hA : ∀ z, s.heap.size ≤ z → va_A (wX q cA S ++ xl a cL f) s.heap.size z := fun z h => Or.inr h
  have hS : va_S (va_A (wX q cA S ++ xl a cL f) s.heap.size) s.heap s.heap [] := va_S.rf
  have hx := B.exec
  have hb := B.bytes
  have hr := B.returns
  have hts := atoms_spec (ws := wsL_close) B.pre
  have hown : s.vm.findClass RL = some m.cls := findClass_of_methodNamed B.named
  have hlocks := B.notSynchronized
  have hK1 : va_K D vwCl [(cA, .int)] s := hK.sub [0] rfl
  have htb := vx_table (x := yL_close) B (hts _ List.mem_cons_self)
  have hl := lv_entry ([.ref (q 0), .ref a]) (n := 3) (Nat.le_of_ble_eq_true rfl)
  rw [lg_entry_eq]
  generalize (lg_sl ([.ref (q 0), .ref a]) ++ List.replicate (3 - (lg_sl ([.ref (q 0), .ref a])).length) Slot.unset).toArray = ls at hl ⊢
  have hl : lv_has ls 3 [(0, .ref (q 0)), (1, .ref a)] := hl
  refine lv_aload_n hx hb dL_close_0 rfl (lv_at hl 1 rfl) ?_
  refine lv_iconst (v := 0) hx hb dL_close_1 (by decide) ?_
  refine lv_aload_n hx hb dL_close_2 rfl (lv_at hl 0 rfl) ?_
  refine xp_t (ws := wX q cA S) (pl := xl a cL f) (As := []) (rest := [.int 0, .ref a]) ⟨hx, hb, hml, hown, hts⟩ (kX0_close_full l D q cA S hok hl9 hcan hfull _) (cwV 0 hts (gd_V bw_112 bw_113 bw_114 bw_1 bw_115) rfl rfl rfl (by decide +kernel) ⟨Nat.le_of_ble_eq_true rfl, Nat.le_of_ble_eq_true rfl⟩) (va_recv (ci := 0) (q0 := 0) hK hP rfl rfl) hX hP hK1 hD hS hA rfl hl.1 rfl (Nat.le_of_ble_eq_true rfl) dL_close_3 ⟨Nat.le_of_ble_eq_true rfl, Nat.le_of_ble_eq_true rfl⟩ [] ⟨0, 8, 11, 19⟩ [] htb (fun z hz => nomatch hz) (by decide) (by decide) (hts _ (List.mem_cons_of_mem _ bw_111)) (va_Nw.use rfl (hX.2.2.2.1 "java/lang/IllegalStateException" (by decide))) (fun u1 q9 H locs hu hP hD hS => ?_)
  refine lv_astore_n (lv' := [(2, .ref q9), (0, .ref (q 0)), (1, .ref a)]) hx hb dL_close_11 rfl hl (by decide) rfl (fun ls hl => ?_)
  refine lv_iconst (v := 1) hx hb dL_close_12 (by decide) ?_
  have hP : va_P D vwCl (wX q cA u1 ++ xl a cL f) H := hP
  have hD : va_D (va_A (wX q cA S ++ xl a cL f) s.heap.size) (wX q cA u1 ++ xl a cL f) := hD
  have hpo : (fun (r : Int32) (z : XS × (Nat → Int64)) => r = 1 ∧ z.1 = (xk 0 (xt S) (xn S) (xm S) (xh S) (xg S) (xse S) (xnu S) (xes S) (xel S) (xgi S) (xre S))) 1 (u1, f) := ⟨rfl, hu⟩
  exact W.iret (v := 1) hx hb hr (fun t ht hW => ⟨⟨1, (u1, f), rfl, hpo, by rw [ht]; exact hP, va_K.moved hW.alike hK, hD⟩, hS.F ht⟩) hS.2.2 dL_close_13
