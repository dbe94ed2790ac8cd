/-! The class: close. -/
set_option maxHeartbeats 4000000 in
set_option maxRecDepth 100000 in
theorem kX0_close_not (l : Launch) (D : va_G) (q : Nat → Nat) (cA : ClassId) (S : XS) (hok : okX S) (hcan : q_can (vXL S) (xd S) = false) (sz : Nat) : xw_Mi l yX0_close wsX0_close ({ frames := 2, cells := 0, slots := 0, locals := 44 }) D vwCl [(cA, .int)] [.ref (q 0)] (wX q cA S) sz (fun (r : Int32) (u : XS) => (r : Int32) = -1 ∧ u = (xk 0 (xt S) (xn S) (xm S) (xh S) (if k_taut (xd S) = false ∧ xg S < 100 then xg S + 1 else xg S) (xse S) (xnu S) (xes S) (xel S) (if k_taut (xd S) = false ∧ xg S < 100 then upd (xgi S) (xg S) (xd S) else xgi S) (xre S))) (wX q cA) := by
  refine Met.ofW (cc := cX0_close) (maxL := 3) (ret := (some .int)) (by decide) rfl ?_
  intro p e s m args below meth c s₁ B hml hv
  obtain ⟨rfl, hsz, hP, hK, hD0⟩ := hv
  subst hsz
  have hD := hD0.self (sz := s.heap.size)
  have hA : ∀ z, s.heap.size ≤ z → va_A (wX q cA S) s.heap.size z := fun z h => Or.inr h
  have hS : va_S (va_A (wX q cA S) s.heap.size) s.heap s.heap [] := va_S.rf
  obtain ⟨hn40, hh200, hg100⟩ := id hok
  have hx := B.exec
  have hb := B.bytes
  have hr := B.returns
  have hts := atoms_spec (ws := wsX0_close) B.pre
  have hown : s.vm.findClass RX0 = some m.cls := findClass_of_methodNamed B.named
  have hlocks := B.notSynchronized
  have hinX0 : ∀ w ∈ u_ws RX0 TX0 12, w ∈ wsX0_close := fun w h => List.mem_cons_of_mem _ (bw_X0 w h)
  have hf39 := hts _ (List.mem_cons_of_mem _ bw_19)
  have hl := lv_entry ([.ref (q 0)]) (n := 3) (Nat.le_of_ble_eq_true rfl)
  rw [lg_entry_eq]
  generalize (lg_sl ([.ref (q 0)]) ++ List.replicate (3 - (lg_sl ([.ref (q 0)])).length) Slot.unset).toArray = ls at hl ⊢
  have hl : lv_has ls 3 [(0, .ref (q 0))] := hl
  refine lv_aload_n hx hb dX0_close_0 rfl (lv_at hl 0 rfl) ?_
  refine va_get (v := .int (xd S)) hx hb hts hinX0 hown hK hP 0 rfl rfl 0 (by decide) hf39 (fun _ h9 => h9) rfl dX0_close_1 ?_
  refine lv_istore_n (lv' := [(1, .int (xd S)), (0, .ref (q 0))]) hx hb dX0_close_4 rfl hl (by decide) rfl (fun ls hl => ?_)
  refine lv_aload_n hx hb dX0_close_5 rfl (lv_at hl 1 rfl) ?_
  refine lv_iload_n hx hb dX0_close_6 rfl (lv_at hl 0 rfl) ?_
  refine xc_rv (As := [.int (xd S)]) (rest := []) ⟨hx, hb, hml, hown, hts⟩ (kX0_canBeMade l D q cA S ⟨hn40, hh200, hg100⟩ (xd S)) (cwV 1 hts (gd_V bw_116 bw_117 bw_413 bw_1 bw_118) rfl rfl rfl (by decide +kernel) ⟨Nat.le_of_ble_eq_true rfl, Nat.le_of_ble_eq_true rfl⟩) (va_recv (ci := 0) (q0 := 0) hK hP rfl rfl) hP hK rfl hl.1 rfl (Nat.le_of_ble_eq_true rfl) dX0_close_7 ⟨Nat.zero_le _, Nat.zero_le _⟩ ?_
  refine lv_istore_n (lv' := [(2, .int (k_b (q_can (vXL S) (xd S)))), (1, .int (xd S)), (0, .ref (q 0))]) hx hb dX0_close_10 rfl hl (by decide) rfl (fun ls hl => ?_)
  refine lv_aload_n hx hb dX0_close_11 rfl (lv_at hl 2 rfl) ?_
  refine lv_iconst (v := 0) hx hb dX0_close_12 (by decide) ?_
  refine va_put (v := .int 0) (ty := .int) hx hb hts hinX0 tyX0 tyX0_ok nmX0 hown hK hP hD hS 0 rfl rfl 0 (by decide) hf39 (fun _ h9 => h9) rfl (by decide +kernel) rfl rfl (Nat.le_of_ble_eq_true rfl) dX0_close_13 (fun H locs hP hD hS => ?_)
  have hP : va_P D vwCl (wX q cA (xk 0 (xt S) (xn S) (xm S) (xh S) (xg S) (xse S) (xnu S) (xes S) (xel S) (xgi S) (xre S))) H := hP
  have hD : va_D _ (wX q cA (xk 0 (xt S) (xn S) (xm S) (xh S) (xg S) (xse S) (xnu S) (xes S) (xel S) (xgi S) (xre S))) := hD
  refine lv_iload_n hx hb dX0_close_16 rfl (lv_at hl 0 rfl) ?_
  refine lv_if_eq (tgt := 39) hx hb dX0_close_17 (by decide) (fun hc17 => ?_) (fun hc17 => ?_)
  · refine lv_aload_n hx hb dX0_close_39 rfl (lv_at hl 2 rfl) ?_
    refine lv_iload_n hx hb dX0_close_40 rfl (lv_at hl 1 rfl) ?_
    refine xc_wv (As := [.int (xd S)]) (rest := []) ⟨hx, hb, hml, hown, hts⟩ (kX0_remember l D q cA (xk 0 (xt S) (xn S) (xm S) (xh S) (xg S) (xse S) (xnu S) (xes S) (xel S) (xgi S) (xre S)) ⟨hn40, hh200, hg100⟩ (xd S) _) (cwV 1 hts (gd_V bw_127 bw_128 bw_414 bw_1 bw_129) rfl rfl rfl (by decide +kernel) ⟨Nat.le_of_ble_eq_true rfl, Nat.le_of_ble_eq_true rfl⟩) (va_recv (ci := 0) (q0 := 0) hK hP rfl rfl) hP hK hD hS hA rfl hl.1 rfl (Nat.le_of_ble_eq_true rfl) dX0_close_41 ⟨Nat.zero_le _, Nat.zero_le _⟩ (fun u1 H locs hu1 hP hD hS => ?_)
    have eu1 : u1 = (xk 0 (xt S) (xn S) (xm S) (xh S) (if k_taut (xd S) = false ∧ xg S < 100 then xg S + 1 else xg S) (xse S) (xnu S) (xes S) (xel S) (if k_taut (xd S) = false ∧ xg S < 100 then upd (xgi S) (xg S) (xd S) else xgi S) (xre S)) := by
      have z9 : u1 = (if k_taut (xd S) = false ∧ xg S < 100 then (xk 0 (xt S) (xn S) (xm S) (xh S) (xg S + 1) (xse S) (xnu S) (xes S) (xel S) (upd (xgi S) (xg S) (xd S)) (xre S)) else (xk 0 (xt S) (xn S) (xm S) (xh S) (xg S) (xse S) (xnu S) (xes S) (xel S) (xgi S) (xre S))) := hu1
      rw [z9]
      by_cases z : k_taut (xd S) = false ∧ xg S < 100
      · rw [if_pos z, if_pos z, if_pos z]
      · rw [if_neg z, if_neg z, if_neg z]
    have hP : va_P D vwCl (wX q cA (xk 0 (xt S) (xn S) (xm S) (xh S) (if k_taut (xd S) = false ∧ xg S < 100 then xg S + 1 else xg S) (xse S) (xnu S) (xes S) (xel S) (if k_taut (xd S) = false ∧ xg S < 100 then upd (xgi S) (xg S) (xd S) else xgi S) (xre S))) H := by rw [eu1] at hP; exact hP
    have hD : va_D (va_A (wX q cA S) s.heap.size) (wX q cA (xk 0 (xt S) (xn S) (xm S) (xh S) (if k_taut (xd S) = false ∧ xg S < 100 then xg S + 1 else xg S) (xse S) (xnu S) (xes S) (xel S) (if k_taut (xd S) = false ∧ xg S < 100 then upd (xgi S) (xg S) (xd S) else xgi S) (xre S))) := by rw [eu1] at hD; exact hD
    have hg9 : (if k_taut (xd S) = false ∧ xg S < 100 then xg S + 1 else xg S) ≤ 100 := by split <;> omega
    refine lv_iload_n hx hb dX0_close_44 rfl (lv_at hl 0 rfl) ?_
    refine lv_if_eq (tgt := 56) hx hb dX0_close_45 (by decide) (fun hc45 => ?_) (fun hc45 => ?_)
    · refine lv_iconst (v := (-1)) hx hb dX0_close_56 (by decide) ?_
      have hpo : ((-1) : Int32) = -1 ∧ (xk 0 (xt S) (xn S) (xm S) (xh S) (if k_taut (xd S) = false ∧ xg S < 100 then xg S + 1 else xg S) (xse S) (xnu S) (xes S) (xel S) (if k_taut (xd S) = false ∧ xg S < 100 then upd (xgi S) (xg S) (xd S) else xgi S) (xre S)) = (xk 0 (xt S) (xn S) (xm S) (xh S) (if k_taut (xd S) = false ∧ xg S < 100 then xg S + 1 else xg S) (xse S) (xnu S) (xes S) (xel S) (if k_taut (xd S) = false ∧ xg S < 100 then upd (xgi S) (xg S) (xd S) else xgi S) (xre S)) := ⟨rfl, rfl⟩
      exact W.iret (v := (-1)) hx hb hr (fun t ht hW => ⟨⟨(-1), (xk 0 (xt S) (xn S) (xm S) (xh S) (if k_taut (xd S) = false ∧ xg S < 100 then xg S + 1 else xg S) (xse S) (xnu S) (xes S) (xel S) (if k_taut (xd S) = false ∧ xg S < 100 then upd (xgi S) (xg S) (xd S) else xgi S) (xre S)), rfl, hpo, by rw [ht]; exact hP, va_K.moved hW.alike hK, hD⟩, hS.F ht⟩) hS.2.2 dX0_close_57
    · exact absurd (show q_can (vXL S) (xd S) = true from kb_n0.mp hc45) (by rw [hcan]; decide)
  · exact absurd (show q_can (vXL S) (xd S) = true from kb_n0.mp hc17) (by rw [hcan]; decide)

set_option maxHeartbeats 4000000 in
set_option maxRecDepth 100000 in
theorem kX0_close_made (l : Launch) (D : va_G) (q : Nat → Nat) (cA : ClassId) (S : XS) (hok : okX S) (hcan : q_can (vXL S) (xd S) = true) (hn9 : xn S < 40) (sz : Nat) : xw_Mi l yX0_close wsX0_close ({ frames := 2, cells := 0, slots := 0, locals := 44 }) D vwCl [(cA, .int)] [.ref (q 0)] (wX q cA S) sz (fun (r : Int32) (u : XS) => r = xm S ∧ u = (xk 0 (xt S) (xn S + 1) (xm S + 1) (xh S) (if k_taut (xd S) = false ∧ xg S < 100 then xg S + 1 else xg S) (upd (xse S) (xn S) (xd S)) (upd (xnu S) (xn S) (xm S)) (xes S) (xel S) (if k_taut (xd S) = false ∧ xg S < 100 then upd (xgi S) (xg S) (xd S) else xgi S) (xre S))) (wX q cA) := by
  refine Met.ofW (cc := cX0_close) (maxL := 3) (ret := (some .int)) (by decide) rfl ?_
  intro p e s m args below meth c s₁ B hml hv
  obtain ⟨rfl, hsz, hP, hK, hD0⟩ := hv
  subst hsz
  have hD := hD0.self (sz := s.heap.size)
  have hA : ∀ z, s.heap.size ≤ z → va_A (wX q cA S) s.heap.size z := fun z h => Or.inr h
  have hS : va_S (va_A (wX q cA S) s.heap.size) s.heap s.heap [] := va_S.rf
  obtain ⟨hn40, hh200, hg100⟩ := id hok
  have hx := B.exec
  have hb := B.bytes
  have hr := B.returns
  have hts := atoms_spec (ws := wsX0_close) B.pre
  have hown : s.vm.findClass RX0 = some m.cls := findClass_of_methodNamed B.named
  have hlocks := B.notSynchronized
  have hinX0 : ∀ w ∈ u_ws RX0 TX0 12, w ∈ wsX0_close := fun w h => List.mem_cons_of_mem _ (bw_X0 w h)
  have hf39 := hts _ (List.mem_cons_of_mem _ bw_19)
  have hf58 := hts _ (List.mem_cons_of_mem _ bw_23)
  have hl := lv_entry ([.ref (q 0)]) (n := 3) (Nat.le_of_ble_eq_true rfl)
  rw [lg_entry_eq]
  generalize (lg_sl ([.ref (q 0)]) ++ List.replicate (3 - (lg_sl ([.ref (q 0)])).length) Slot.unset).toArray = ls at hl ⊢
  have hl : lv_has ls 3 [(0, .ref (q 0))] := hl
  refine lv_aload_n hx hb dX0_close_0 rfl (lv_at hl 0 rfl) ?_
  refine va_get (v := .int (xd S)) hx hb hts hinX0 hown hK hP 0 rfl rfl 0 (by decide) hf39 (fun _ h9 => h9) rfl dX0_close_1 ?_
  refine lv_istore_n (lv' := [(1, .int (xd S)), (0, .ref (q 0))]) hx hb dX0_close_4 rfl hl (by decide) rfl (fun ls hl => ?_)
  refine lv_aload_n hx hb dX0_close_5 rfl (lv_at hl 1 rfl) ?_
  refine lv_iload_n hx hb dX0_close_6 rfl (lv_at hl 0 rfl) ?_
  refine xc_rv (As := [.int (xd S)]) (rest := []) ⟨hx, hb, hml, hown, hts⟩ (kX0_canBeMade l D q cA S ⟨hn40, hh200, hg100⟩ (xd S)) (cwV 1 hts (gd_V bw_116 bw_117 bw_413 bw_1 bw_118) rfl rfl rfl (by decide +kernel) ⟨Nat.le_of_ble_eq_true rfl, Nat.le_of_ble_eq_true rfl⟩) (va_recv (ci := 0) (q0 := 0) hK hP rfl rfl) hP hK rfl hl.1 rfl (Nat.le_of_ble_eq_true rfl) dX0_close_7 ⟨Nat.zero_le _, Nat.zero_le _⟩ ?_
  refine lv_istore_n (lv' := [(2, .int (k_b (q_can (vXL S) (xd S)))), (1, .int (xd S)), (0, .ref (q 0))]) hx hb dX0_close_10 rfl hl (by decide) rfl (fun ls hl => ?_)
  refine lv_aload_n hx hb dX0_close_11 rfl (lv_at hl 2 rfl) ?_
  refine lv_iconst (v := 0) hx hb dX0_close_12 (by decide) ?_
  refine va_put (v := .int 0) (ty := .int) hx hb hts hinX0 tyX0 tyX0_ok nmX0 hown hK hP hD hS 0 rfl rfl 0 (by decide) hf39 (fun _ h9 => h9) rfl (by decide +kernel) rfl rfl (Nat.le_of_ble_eq_true rfl) dX0_close_13 (fun H locs hP hD hS => ?_)
  have hP : va_P D vwCl (wX q cA (xk 0 (xt S) (xn S) (xm S) (xh S) (xg S) (xse S) (xnu S) (xes S) (xel S) (xgi S) (xre S))) H := hP
  have hD : va_D _ (wX q cA (xk 0 (xt S) (xn S) (xm S) (xh S) (xg S) (xse S) (xnu S) (xes S) (xel S) (xgi S) (xre S))) := hD
  refine lv_iload_n hx hb dX0_close_16 rfl (lv_at hl 0 rfl) ?_
  refine lv_if_eq (tgt := 39) hx hb dX0_close_17 (by decide) (fun hc17 => ?_) (fun hc17 => ?_)
  · exact absurd (show q_can (vXL S) (xd S) = false from kb_0.mp hc17) (by rw [hcan]; decide)
  · refine lv_aload_n hx hb dX0_close_20 rfl (lv_at hl 2 rfl) ?_
    refine va_get (v := .int (nI (xn S))) hx hb hts hinX0 hown hK hP 0 rfl rfl 4 (by decide) hf58 (fun _ h9 => h9) rfl dX0_close_21 ?_
    refine lv_bipush (v := 40) hx hb dX0_close_24 (by decide) ?_
    refine lv_icmp_lt (tgt := 39) hx hb dX0_close_26 (by decide) (fun hc26 => ?_) (fun hc26 => ?_)
    · refine lv_aload_n hx hb dX0_close_39 rfl (lv_at hl 2 rfl) ?_
      refine lv_iload_n hx hb dX0_close_40 rfl (lv_at hl 1 rfl) ?_
      refine xc_wv (As := [.int (xd S)]) (rest := []) ⟨hx, hb, hml, hown, hts⟩ (kX0_remember l D q cA (xk 0 (xt S) (xn S) (xm S) (xh S) (xg S) (xse S) (xnu S) (xes S) (xel S) (xgi S) (xre S)) ⟨hn40, hh200, hg100⟩ (xd S) _) (cwV 1 hts (gd_V bw_127 bw_128 bw_414 bw_1 bw_129) rfl rfl rfl (by decide +kernel) ⟨Nat.le_of_ble_eq_true rfl, Nat.le_of_ble_eq_true rfl⟩) (va_recv (ci := 0) (q0 := 0) hK hP rfl rfl) hP hK hD hS hA rfl hl.1 rfl (Nat.le_of_ble_eq_true rfl) dX0_close_41 ⟨Nat.zero_le _, Nat.zero_le _⟩ (fun u1 H locs hu1 hP hD hS => ?_)
      have eu1 : u1 = (xk 0 (xt S) (xn S) (xm S) (xh S) (if k_taut (xd S) = false ∧ xg S < 100 then xg S + 1 else xg S) (xse S) (xnu S) (xes S) (xel S) (if k_taut (xd S) = false ∧ xg S < 100 then upd (xgi S) (xg S) (xd S) else xgi S) (xre S)) := by
        have z9 : u1 = (if k_taut (xd S) = false ∧ xg S < 100 then (xk 0 (xt S) (xn S) (xm S) (xh S) (xg S + 1) (xse S) (xnu S) (xes S) (xel S) (upd (xgi S) (xg S) (xd S)) (xre S)) else (xk 0 (xt S) (xn S) (xm S) (xh S) (xg S) (xse S) (xnu S) (xes S) (xel S) (xgi S) (xre S))) := hu1
        rw [z9]
        by_cases z : k_taut (xd S) = false ∧ xg S < 100
        · rw [if_pos z, if_pos z, if_pos z]
        · rw [if_neg z, if_neg z, if_neg z]
      have hP : va_P D vwCl (wX q cA (xk 0 (xt S) (xn S) (xm S) (xh S) (if k_taut (xd S) = false ∧ xg S < 100 then xg S + 1 else xg S) (xse S) (xnu S) (xes S) (xel S) (if k_taut (xd S) = false ∧ xg S < 100 then upd (xgi S) (xg S) (xd S) else xgi S) (xre S))) H := by rw [eu1] at hP; exact hP
      have hD : va_D (va_A (wX q cA S) s.heap.size) (wX q cA (xk 0 (xt S) (xn S) (xm S) (xh S) (if k_taut (xd S) = false ∧ xg S < 100 then xg S + 1 else xg S) (xse S) (xnu S) (xes S) (xel S) (if k_taut (xd S) = false ∧ xg S < 100 then upd (xgi S) (xg S) (xd S) else xgi S) (xre S))) := by rw [eu1] at hD; exact hD
      have hg9 : (if k_taut (xd S) = false ∧ xg S < 100 then xg S + 1 else xg S) ≤ 100 := by split <;> omega
      refine lv_iload_n hx hb dX0_close_44 rfl (lv_at hl 0 rfl) ?_
      refine lv_if_eq (tgt := 56) hx hb dX0_close_45 (by decide) (fun hc45 => ?_) (fun hc45 => ?_)
      · exact absurd (show q_can (vXL S) (xd S) = false from kb_0.mp hc45) (by rw [hcan]; decide)
      · refine lv_aload_n hx hb dX0_close_48 rfl (lv_at hl 2 rfl) ?_
        refine lv_iload_n hx hb dX0_close_49 rfl (lv_at hl 1 rfl) ?_
        refine xc_wi (As := [.int (xd S)]) (rest := []) ⟨hx, hb, hml, hown, hts⟩ (kX0_make l D q cA (xk 0 (xt S) (xn S) (xm S) (xh S) (if k_taut (xd S) = false ∧ xg S < 100 then xg S + 1 else xg S) (xse S) (xnu S) (xes S) (xel S) (if k_taut (xd S) = false ∧ xg S < 100 then upd (xgi S) (xg S) (xd S) else xgi S) (xre S)) ⟨hn40, hh200, hg9⟩ (xd S) (show xn S < 40 from hn9) _) (cwV 1 hts (gd_V bw_130 bw_131 bw_415 bw_1 bw_132) rfl rfl rfl (by decide +kernel) ⟨Nat.le_of_ble_eq_true rfl, Nat.le_of_ble_eq_true rfl⟩) (va_recv (ci := 0) (q0 := 0) hK hP rfl rfl) hP hK hD hS hA rfl hl.1 rfl (Nat.le_of_ble_eq_true rfl) dX0_close_50 ⟨Nat.zero_le _, Nat.zero_le _⟩ (fun r4 u3 H locs hu3 hP hD hS => ?_)
        have hP : va_P D vwCl (wX q cA (xk 0 (xt S) (xn S + 1) (xm S + 1) (xh S) (if k_taut (xd S) = false ∧ xg S < 100 then xg S + 1 else xg S) (upd (xse S) (xn S) (xd S)) (upd (xnu S) (xn S) (xm S)) (xes S) (xel S) (if k_taut (xd S) = false ∧ xg S < 100 then upd (xgi S) (xg S) (xd S) else xgi S) (xre S))) H := by rw [hu3.2] at hP; exact hP
        have hD : va_D (va_A (wX q cA S) s.heap.size) (wX q cA (xk 0 (xt S) (xn S + 1) (xm S + 1) (xh S) (if k_taut (xd S) = false ∧ xg S < 100 then xg S + 1 else xg S) (upd (xse S) (xn S) (xd S)) (upd (xnu S) (xn S) (xm S)) (xes S) (xel S) (if k_taut (xd S) = false ∧ xg S < 100 then upd (xgi S) (xg S) (xd S) else xgi S) (xre S))) := by rw [hu3.2] at hD; exact hD
        refine lv_goto (tgt := 57) hx hb dX0_close_53 (by decide) ?_
        have hpo : r4 = xm S ∧ (xk 0 (xt S) (xn S + 1) (xm S + 1) (xh S) (if k_taut (xd S) = false ∧ xg S < 100 then xg S + 1 else xg S) (upd (xse S) (xn S) (xd S)) (upd (xnu S) (xn S) (xm S)) (xes S) (xel S) (if k_taut (xd S) = false ∧ xg S < 100 then upd (xgi S) (xg S) (xd S) else xgi S) (xre S)) = (xk 0 (xt S) (xn S + 1) (xm S + 1) (xh S) (if k_taut (xd S) = false ∧ xg S < 100 then xg S + 1 else xg S) (upd (xse S) (xn S) (xd S)) (upd (xnu S) (xn S) (xm S)) (xes S) (xel S) (if k_taut (xd S) = false ∧ xg S < 100 then upd (xgi S) (xg S) (xd S) else xgi S) (xre S)) := ⟨hu3.1, rfl⟩
        exact W.iret (v := r4) hx hb hr (fun t ht hW => ⟨⟨r4, (xk 0 (xt S) (xn S + 1) (xm S + 1) (xh S) (if k_taut (xd S) = false ∧ xg S < 100 then xg S + 1 else xg S) (upd (xse S) (xn S) (xd S)) (upd (xnu S) (xn S) (xm S)) (xes S) (xel S) (if k_taut (xd S) = false ∧ xg S < 100 then upd (xgi S) (xg S) (xd S) else xgi S) (xre S)), rfl, hpo, by rw [ht]; exact hP, va_K.moved hW.alike hK, hD⟩, hS.F ht⟩) hS.2.2 dX0_close_57
    · exact absurd (nI_lt (a := xn S) (b := 40) hn9 (by decide)) hc26

set_option maxHeartbeats 4000000 in
set_option maxRecDepth 100000 in
theorem kX0_close_full (l : Launch) (D : va_G) (q : Nat → Nat) (cA : ClassId) (S : XS) (hok : okX S) (hl9 : l.stackTraces = false) (hcan : q_can (vXL S) (xd S) = true) (hfull : ¬ xn S < 40) (sz : Nat) : xt_M l yX0_close wsX0_close ({ frames := 6, cells := 1, slots := 6, locals := 82 }) D vwCl [(cA, .int)] [.ref (q 0)] (wX q cA S) sz "java/lang/IllegalStateException" (fun u : XS => u = (xk 0 (xt S) (xn S) (xm S) (xh S) (xg S) (xse S) (xnu S) (xes S) (xel S) (xgi S) (xre S))) (wX q cA) := by
  refine vx_ofW (cc := cX0_close) (maxL := 3) (ret := (some .int)) (by decide) rfl ?_
  intro p e s m args below meth c s₁ B hml hnt hv
  obtain ⟨rfl, ⟨hsz, hP, hK, hD0⟩, hX⟩ := hv
  subst hsz
  have hD := hD0.self (sz := s.heap.size)
  have hA : ∀ z, s.heap.size ≤ z → va_A (wX q cA S) s.heap.size z := fun z h => Or.inr h
  have hS : va_S (va_A (wX q cA S) s.heap.size) s.heap s.heap [] := va_S.rf
  obtain ⟨hn40, hh200, hg100⟩ := id hok
  have hx := B.exec
  have hb := B.bytes
  have hr := B.returns
  have hts := atoms_spec (ws := wsX0_close) B.pre
  have hown : s.vm.findClass RX0 = some m.cls := findClass_of_methodNamed B.named
  have hlocks := B.notSynchronized
  have hinX0 : ∀ w ∈ u_ws RX0 TX0 12, w ∈ wsX0_close := fun w h => List.mem_cons_of_mem _ (bw_X0 w h)
  have hf39 := hts _ (List.mem_cons_of_mem _ bw_19)
  have hf58 := hts _ (List.mem_cons_of_mem _ bw_23)
  have hl := lv_entry ([.ref (q 0)]) (n := 3) (Nat.le_of_ble_eq_true rfl)
  rw [lg_entry_eq]
  generalize (lg_sl ([.ref (q 0)]) ++ List.replicate (3 - (lg_sl ([.ref (q 0)])).length) Slot.unset).toArray = ls at hl ⊢
  have hl : lv_has ls 3 [(0, .ref (q 0))] := hl
  refine lv_aload_n hx hb dX0_close_0 rfl (lv_at hl 0 rfl) ?_
  refine va_get (v := .int (xd S)) hx hb hts hinX0 hown hK hP 0 rfl rfl 0 (by decide) hf39 (fun _ h9 => h9) rfl dX0_close_1 ?_
  refine lv_istore_n (lv' := [(1, .int (xd S)), (0, .ref (q 0))]) hx hb dX0_close_4 rfl hl (by decide) rfl (fun ls hl => ?_)
  refine lv_aload_n hx hb dX0_close_5 rfl (lv_at hl 1 rfl) ?_
  refine lv_iload_n hx hb dX0_close_6 rfl (lv_at hl 0 rfl) ?_
  refine xc_rv (As := [.int (xd S)]) (rest := []) ⟨hx, hb, hml, hown, hts⟩ (kX0_canBeMade l D q cA S ⟨hn40, hh200, hg100⟩ (xd S)) (cwV 1 hts (gd_V bw_116 bw_117 bw_413 bw_1 bw_118) rfl rfl rfl (by decide +kernel) ⟨Nat.le_of_ble_eq_true rfl, Nat.le_of_ble_eq_true rfl⟩) (va_recv (ci := 0) (q0 := 0) hK hP rfl rfl) hP hK rfl hl.1 rfl (Nat.le_of_ble_eq_true rfl) dX0_close_7 ⟨Nat.zero_le _, Nat.zero_le _⟩ ?_
  refine lv_istore_n (lv' := [(2, .int (k_b (q_can (vXL S) (xd S)))), (1, .int (xd S)), (0, .ref (q 0))]) hx hb dX0_close_10 rfl hl (by decide) rfl (fun ls hl => ?_)
  refine lv_aload_n hx hb dX0_close_11 rfl (lv_at hl 2 rfl) ?_
  refine lv_iconst (v := 0) hx hb dX0_close_12 (by decide) ?_
  refine va_put (v := .int 0) (ty := .int) hx hb hts hinX0 tyX0 tyX0_ok nmX0 hown hK hP hD hS 0 rfl rfl 0 (by decide) hf39 (fun _ h9 => h9) rfl (by decide +kernel) rfl rfl (Nat.le_of_ble_eq_true rfl) dX0_close_13 (fun H locs hP hD hS => ?_)
  have hP : va_P D vwCl (wX q cA (xk 0 (xt S) (xn S) (xm S) (xh S) (xg S) (xse S) (xnu S) (xes S) (xel S) (xgi S) (xre S))) H := hP
  have hD : va_D _ (wX q cA (xk 0 (xt S) (xn S) (xm S) (xh S) (xg S) (xse S) (xnu S) (xes S) (xel S) (xgi S) (xre S))) := hD
  refine lv_iload_n hx hb dX0_close_16 rfl (lv_at hl 0 rfl) ?_
  refine lv_if_eq (tgt := 39) hx hb dX0_close_17 (by decide) (fun hc17 => ?_) (fun hc17 => ?_)
  · exact absurd (show q_can (vXL S) (xd S) = false from kb_0.mp hc17) (by rw [hcan]; decide)
  · refine lv_aload_n hx hb dX0_close_20 rfl (lv_at hl 2 rfl) ?_
    refine va_get (v := .int (nI (xn S))) hx hb hts hinX0 hown hK hP 0 rfl rfl 4 (by decide) hf58 (fun _ h9 => h9) rfl dX0_close_21 ?_
    refine lv_bipush (v := 40) hx hb dX0_close_24 (by decide) ?_
    refine lv_icmp_lt (tgt := 39) hx hb dX0_close_26 (by decide) (fun hc26 => ?_) (fun hc26 => ?_)
    · exact absurd ((nI_ltI (a := xn S) (b := 40) (by omega) (by decide)).mp hc26) (by omega)
    · have hpo : (xk 0 (xt S) (xn S) (xm S) (xh S) (xg S) (xse S) (xnu S) (xes S) (xel S) (xgi S) (xre S)) = (xk 0 (xt S) (xn S) (xm S) (xh S) (xg S) (xse S) (xnu S) (xes S) (xel S) (xgi S) (xre S)) := rfl
      exact xt_thr (E := "java/lang/IllegalStateException") (text := "40 clauses are there") hl9 hX (by decide) (by decide) (by decide) xi65 xj65 bw_125 bw_8 hx hb hml hts hown hlocks hnt hl.1 hK hS (xk 0 (xt S) (xn S) (xm S) (xh S) (xg S) (xse S) (xnu S) (xes S) (xel S) (xgi S) (xre S)) hP hD hpo dX0_close_29 dX0_close_32 dX0_close_33 dX0_close_35 dX0_close_38 (Nat.le_of_ble_eq_true rfl) (Nat.le_of_ble_eq_true rfl) (Nat.le_of_ble_eq_true rfl) (Nat.le_of_ble_eq_true rfl)
