/-! The class: more methods that write. -/
set_option maxHeartbeats 4000000 in
set_option maxRecDepth 100000 in
theorem kX0_removeAllWith (l : Launch) (D : va_G) (q : Nat → Nat) (cA : ClassId) (S : XS) (hok : okX S) (x : Int32) (sz : Nat) : xw_Mv l yX0_removeAllWith wsX0_removeAllWith ({ frames := 0, cells := 0, slots := 0, locals := 0 }) D vwCl [(cA, .int)] [.ref (q 0), .int x] (wX q cA S) sz (fun u : XS => x_same S u ∧ vXL u = (vXL S).filter (fun c => (c.1 &&& x) == 0)) (wX q cA) := by
  refine Met.ofW (cc := cX0_removeAllWith) (maxL := 4) (ret := none) (by decide) rfl ?_
  intro p e s m args below meth c s₁ B hml hv
  obtain ⟨rfl, hsz, hP, hK, hD0⟩ := hv
  subst hsz
  have hD := hD0.self (sz := s.heap.size)
  have hA : ∀ z, s.heap.size ≤ z → va_A (wX q cA S) s.heap.size z := fun z h => Or.inr h
  have hS : va_S (va_A (wX q cA S) s.heap.size) s.heap s.heap [] := va_S.rf
  obtain ⟨hn40, hh200, hg100⟩ := id hok
  have hx := B.exec
  have hb := B.bytes
  have hr := B.returns
  have hts := atoms_spec (ws := wsX0_removeAllWith) B.pre
  have hown : s.vm.findClass RX0 = some m.cls := findClass_of_methodNamed B.named
  have hlocks := B.notSynchronized
  have hinX0 : ∀ w ∈ u_ws RX0 TX0 12, w ∈ wsX0_removeAllWith := fun w h => List.mem_cons_of_mem _ (bw_X0 w h)
  have hf9 := hts _ (List.mem_cons_of_mem _ bw_21)
  have hf13 := hts _ (List.mem_cons_of_mem _ bw_22)
  have hf58 := hts _ (List.mem_cons_of_mem _ bw_23)
  have hl := lv_entry ([.ref (q 0), .int x]) (n := 4) (Nat.le_of_ble_eq_true rfl)
  rw [lg_entry_eq]
  generalize (lg_sl ([.ref (q 0), .int x]) ++ List.replicate (4 - (lg_sl ([.ref (q 0), .int x])).length) Slot.unset).toArray = ls at hl ⊢
  have hl : lv_has ls 4 [(0, .ref (q 0)), (1, .int x)] := hl
  refine lv_iconst (v := 0) hx hb dX0_removeAllWith_0 (by decide) ?_
  refine lv_istore_n (lv' := [(2, .int 0), (0, .ref (q 0)), (1, .int x)]) hx hb dX0_removeAllWith_1 rfl hl (by decide) rfl (fun ls hl => ?_)
  refine lv_iconst (v := 0) hx hb dX0_removeAllWith_2 (by decide) ?_
  refine lv_istore_n (lv' := [(3, .int 0), (2, .int 0), (0, .ref (q 0)), (1, .int x)]) hx hb dX0_removeAllWith_3 rfl hl (by decide) rfl (fun ls hl => ?_)
  refine wlw (σ := Nat × Nat × (Nat → Int32) × (Nat → Int32)) (fun (x9 : Nat × Nat × (Nat → Int32) × (Nat → Int32)) (H : Heap) (locs : List Loc) ls => match x9 with | (k, j, f, g) => lv_has ls 4 [(3, .int (nI k)), (2, .int (nI j)), (0, .ref (q 0)), (1, .int x)] ∧ va_P D vwCl (wX q cA (xk (xd S) (xt S) (xn S) (xm S) (xh S) (xg S) f g (xes S) (xel S) (xgi S) (xre S))) H ∧ va_D (va_A (wX q cA S) s.heap.size) (wX q cA (xk (xd S) (xt S) (xn S) (xm S) (xh S) (xg S) f g (xes S) (xel S) (xgi S) (xre S))) ∧ va_S (va_A (wX q cA S) s.heap.size) s.heap H locs ∧ k ≤ xn S ∧ j ≤ k ∧ (∀ i, k ≤ i → f i = xse S i) ∧ (∀ i, k ≤ i → g i = xnu S i) ∧ cl_of j f g = (cl_of k (xse S) (xnu S)).filter (fun c => (c.1 &&& x) == 0)) (fun (x9 : Nat × Nat × (Nat → Int32) × (Nat → Int32)) => match x9 with | (k, j, f, g) => xn S - k) (0, 0, xse S, xnu S) ⟨lv_sub hl [0, 1, 2, 3] rfl, hP, hD, hS, (Nat.zero_le _), (Nat.zero_le _), (fun _ _ => rfl), (fun _ _ => rfl), rfl⟩ ?_
  intro x9 H locs ls hI ih4
  obtain ⟨k, j, f, g⟩ := x9
  obtain ⟨hl, hP, hD, hS, hk, hj, hf, hg, hcl⟩ := hI
  have hl : lv_has ls 4 [(3, .int (nI k)), (2, .int (nI j)), (0, .ref (q 0)), (1, .int x)] := hl
  refine lv_iload_n hx hb dX0_removeAllWith_4 rfl (lv_at hl 0 rfl) ?_
  refine lv_aload_n hx hb dX0_removeAllWith_5 rfl (lv_at hl 2 rfl) ?_
  refine va_get (v := .int (nI (xn S))) hx hb hts hinX0 hown hK hP 0 rfl rfl 4 (by decide) hf58 (fun _ h9 => h9) rfl dX0_removeAllWith_6 ?_
  refine lv_icmp_ge (tgt := 56) hx hb dX0_removeAllWith_9 (by decide) (fun hc9 => ?_) (fun hc9 => ?_)
  · have hge : xn S ≤ k := (nI_leI (by omega) (by omega)).mp hc9
    refine lv_aload_n hx hb dX0_removeAllWith_56 rfl (lv_at hl 2 rfl) ?_
    refine lv_iload_n hx hb dX0_removeAllWith_57 rfl (lv_at hl 1 rfl) ?_
    refine va_put (v := .int (nI j)) (ty := .int) hx hb hts hinX0 tyX0 tyX0_ok nmX0 hown hK hP hD hS 0 rfl rfl 4 (by decide) hf58 (fun _ h9 => h9) rfl (by decide +kernel) rfl rfl (Nat.le_of_ble_eq_true rfl) dX0_removeAllWith_58 (fun H locs hP hD hS => ?_)
    have hP : va_P D vwCl (wX q cA (xk (xd S) (xt S) j (xm S) (xh S) (xg S) f g (xes S) (xel S) (xgi S) (xre S))) H := hP
    have hD : va_D _ (wX q cA (xk (xd S) (xt S) j (xm S) (xh S) (xg S) f g (xes S) (xel S) (xgi S) (xre S))) := hD
    have hpo : x_same S (xk (xd S) (xt S) j (xm S) (xh S) (xg S) f g (xes S) (xel S) (xgi S) (xre S)) ∧ vXL (xk (xd S) (xt S) j (xm S) (xh S) (xg S) f g (xes S) (xel S) (xgi S) (xre S)) = (vXL S).filter (fun c => (c.1 &&& x) == 0) := ⟨rfl, by
      have hkn : k = xn S := by omega
      rw [hkn] at hcl
      exact hcl⟩
    exact W.vret hx hb hr (fun t ht hW => ⟨⟨(xk (xd S) (xt S) j (xm S) (xh S) (xg S) f g (xes S) (xel S) (xgi S) (xre S)), rfl, hpo, by rw [ht]; exact hP, va_K.moved hW.alike hK, hD⟩, hS.F ht⟩) hS.2.2 dX0_removeAllWith_61
  · have hlt : k < xn S := Nat.lt_of_not_le (fun z => hc9 ((nI_leI (by omega) (by omega)).mpr z))
    refine lv_aload_n hx hb dX0_removeAllWith_12 rfl (lv_at hl 2 rfl) ?_
    refine va_get (v := .ref (q 1)) hx hb hts hinX0 hown hK hP 0 rfl rfl 2 (by decide) hf9 (fun _ h9 => h9) rfl dX0_removeAllWith_13 ?_
    refine lv_iload_n hx hb dX0_removeAllWith_16 rfl (lv_at hl 0 rfl) ?_
    refine xa_ld hx hb hK hP 1 0 rfl rfl k (by omega) (by first | decide | assumption) dX0_removeAllWith_17 ?_
    refine lv_iload_n hx hb dX0_removeAllWith_18 rfl (lv_at hl 3 rfl) ?_
    refine lv_iand hx hb dX0_removeAllWith_19 ?_
    refine lv_if_ne (tgt := 50) hx hb dX0_removeAllWith_20 (by decide) (fun hc20 => ?_) (fun hc20 => ?_)
    · refine lv_iinc (k := 0) (v := nI (k + 1)) (lv' := [(3, .int (nI (k + 1))), (2, .int (nI j)), (0, .ref (q 0)), (1, .int x)]) hx hb dX0_removeAllWith_50 hl rfl (ii_1 _) (by decide) rfl (fun ls hl => ?_)
      refine lv_goto (tgt := 4) hx hb dX0_removeAllWith_53 (by decide) ?_
      exact ih4 (k + 1, j, f, g) _ _ _ ⟨lv_sub hl [0, 1, 2, 3] rfl, hP, hD, hS, (by omega), (by omega), (fun i hi => hf i (by omega)), (fun i hi => hg i (by omega)), (by rw [hcl, fl_f (by have z := hf k (Nat.le_refl _); simp [← z, hc20])])⟩ (by show xn S - (k + 1) < xn S - k; omega)
    · refine lv_aload_n hx hb dX0_removeAllWith_23 rfl (lv_at hl 2 rfl) ?_
      refine va_get (v := .ref (q 1)) hx hb hts hinX0 hown hK hP 0 rfl rfl 2 (by decide) hf9 (fun _ h9 => h9) rfl dX0_removeAllWith_24 ?_
      refine lv_iload_n hx hb dX0_removeAllWith_27 rfl (lv_at hl 1 rfl) ?_
      refine lv_aload_n hx hb dX0_removeAllWith_28 rfl (lv_at hl 2 rfl) ?_
      refine va_get (v := .ref (q 1)) hx hb hts hinX0 hown hK hP 0 rfl rfl 2 (by decide) hf9 (fun _ h9 => h9) rfl dX0_removeAllWith_29 ?_
      refine lv_iload_n hx hb dX0_removeAllWith_32 rfl (lv_at hl 0 rfl) ?_
      refine xa_ld hx hb hK hP 1 0 rfl rfl k (by omega) (by first | decide | assumption) dX0_removeAllWith_33 ?_
      refine xa_st hx hb hK hP hD hS 1 0 rfl rfl j (by omega) (by first | decide | assumption) dX0_removeAllWith_34 (fun H locs hP hD hS => ?_)
      have hP : va_P D vwCl (wX q cA (xk (xd S) (xt S) (xn S) (xm S) (xh S) (xg S) (upd f j (f k)) g (xes S) (xel S) (xgi S) (xre S))) H := hP
      have hD : va_D _ (wX q cA (xk (xd S) (xt S) (xn S) (xm S) (xh S) (xg S) (upd f j (f k)) g (xes S) (xel S) (xgi S) (xre S))) := hD
      refine lv_aload_n hx hb dX0_removeAllWith_35 rfl (lv_at hl 2 rfl) ?_
      refine va_get (v := .ref (q 2)) hx hb hts hinX0 hown hK hP 0 rfl rfl 3 (by decide) hf13 (fun _ h9 => h9) rfl dX0_removeAllWith_36 ?_
      refine lv_iload_n hx hb dX0_removeAllWith_39 rfl (lv_at hl 1 rfl) ?_
      refine lv_aload_n hx hb dX0_removeAllWith_40 rfl (lv_at hl 2 rfl) ?_
      refine va_get (v := .ref (q 2)) hx hb hts hinX0 hown hK hP 0 rfl rfl 3 (by decide) hf13 (fun _ h9 => h9) rfl dX0_removeAllWith_41 ?_
      refine lv_iload_n hx hb dX0_removeAllWith_44 rfl (lv_at hl 0 rfl) ?_
      refine xa_ld hx hb hK hP 2 0 rfl rfl k (by omega) (by first | decide | assumption) dX0_removeAllWith_45 ?_
      refine xa_st hx hb hK hP hD hS 2 0 rfl rfl j (by omega) (by first | decide | assumption) dX0_removeAllWith_46 (fun H locs hP hD hS => ?_)
      have hP : va_P D vwCl (wX q cA (xk (xd S) (xt S) (xn S) (xm S) (xh S) (xg S) (upd f j (f k)) (upd g j (g k)) (xes S) (xel S) (xgi S) (xre S))) H := hP
      have hD : va_D _ (wX q cA (xk (xd S) (xt S) (xn S) (xm S) (xh S) (xg S) (upd f j (f k)) (upd g j (g k)) (xes S) (xel S) (xgi S) (xre S))) := hD
      refine lv_iinc (k := 1) (v := nI (j + 1)) (lv' := [(2, .int (nI (j + 1))), (3, .int (nI k)), (0, .ref (q 0)), (1, .int x)]) hx hb dX0_removeAllWith_47 hl rfl (ii_1 _) (by decide) rfl (fun ls hl => ?_)
      refine lv_iinc (k := 1) (v := nI (k + 1)) (lv' := [(3, .int (nI (k + 1))), (2, .int (nI (j + 1))), (0, .ref (q 0)), (1, .int x)]) hx hb dX0_removeAllWith_50 hl rfl (ii_1 _) (by decide) rfl (fun ls hl => ?_)
      refine lv_goto (tgt := 4) hx hb dX0_removeAllWith_53 (by decide) ?_
      exact ih4 (k + 1, j + 1, upd f j (f k), upd g j (g k)) _ _ _ ⟨lv_sub hl [0, 1, 2, 3] rfl, hP, hD, hS, (by omega), (by omega), (fun i hi => by rw [pk_un (by omega)]; exact hf i (by omega)), (fun i hi => by rw [pk_un (by omega)]; exact hg i (by omega)), (by rw [mk_cl, hcl, fl_t (by have z := hf k (Nat.le_refl _); simp [← z, hc20]), hf k (Nat.le_refl _), hg k (Nat.le_refl _)])⟩ (by show xn S - (k + 1) < xn S - k; omega)

set_option maxHeartbeats 4000000 in
set_option maxRecDepth 100000 in
theorem kX0_takeLiteral (l : Launch) (D : va_G) (q : Nat → Nat) (cA : ClassId) (S : XS) (hok : okX S) (k : Nat) (b : Int32) (hk9 : k < xn S) (sz : Nat) : xw_Mv l yX0_takeLiteral wsX0_takeLiteral ({ frames := 1, cells := 0, slots := 0, locals := 23 }) D vwCl [(cA, .int)] [.ref (q 0), .int (nI k), .int b] (wX q cA S) sz (fun u : XS => x_same S u ∧ vXL u = q_take (vXL S) k b) (wX q cA) := by
  refine Met.ofW (cc := cX0_takeLiteral) (maxL := 5) (ret := none) (by decide) rfl ?_
  intro p e s m args below meth c s₁ B hml hv
  obtain ⟨rfl, hsz, hP, hK, hD0⟩ := hv
  subst hsz
  have hD := hD0.self (sz := s.heap.size)
  have hA : ∀ z, s.heap.size ≤ z → va_A (wX q cA S) s.heap.size z := fun z h => Or.inr h
  have hS : va_S (va_A (wX q cA S) s.heap.size) s.heap s.heap [] := va_S.rf
  obtain ⟨hn40, hh200, hg100⟩ := id hok
  have hx := B.exec
  have hb := B.bytes
  have hr := B.returns
  have hts := atoms_spec (ws := wsX0_takeLiteral) B.pre
  have hown : s.vm.findClass RX0 = some m.cls := findClass_of_methodNamed B.named
  have hlocks := B.notSynchronized
  have hinX0 : ∀ w ∈ u_ws RX0 TX0 12, w ∈ wsX0_takeLiteral := fun w h => List.mem_cons_of_mem _ (bw_X0 w h)
  have hf9 := hts _ (List.mem_cons_of_mem _ bw_21)
  have hf58 := hts _ (List.mem_cons_of_mem _ bw_23)
  have hl := lv_entry ([.ref (q 0), .int (nI k), .int b]) (n := 5) (Nat.le_of_ble_eq_true rfl)
  rw [lg_entry_eq]
  generalize (lg_sl ([.ref (q 0), .int (nI k), .int b]) ++ List.replicate (5 - (lg_sl ([.ref (q 0), .int (nI k), .int b])).length) Slot.unset).toArray = ls at hl ⊢
  have hl : lv_has ls 5 [(0, .ref (q 0)), (1, .int (nI k)), (2, .int b)] := hl
  refine lv_aload_n hx hb dX0_takeLiteral_0 rfl (lv_at hl 0 rfl) ?_
  refine va_get (v := .ref (q 1)) hx hb hts hinX0 hown hK hP 0 rfl rfl 2 (by decide) hf9 (fun _ h9 => h9) rfl dX0_takeLiteral_1 ?_
  refine lv_iload_n hx hb dX0_takeLiteral_4 rfl (lv_at hl 1 rfl) ?_
  refine xa_ld hx hb hK hP 1 0 rfl rfl k (by omega) (by first | decide | assumption) dX0_takeLiteral_5 ?_
  refine lv_iload_n hx hb dX0_takeLiteral_6 rfl (lv_at hl 2 rfl) ?_
  refine lv_iconst (v := (-1)) hx hb dX0_takeLiteral_7 (by decide) ?_
  refine xi_not hx hb dX0_takeLiteral_8 ?_
  refine lv_iand hx hb dX0_takeLiteral_9 ?_
  refine lv_topi (fun w9 ew9 => ?_)
  refine lv_istore_n (lv' := [(3, .int w9), (0, .ref (q 0)), (1, .int (nI k)), (2, .int b)]) hx hb dX0_takeLiteral_10 rfl hl (by decide) rfl (fun ls hl => ?_)
  refine lv_aload_n hx hb dX0_takeLiteral_11 rfl (lv_at hl 1 rfl) ?_
  refine va_get (v := .ref (q 1)) hx hb hts hinX0 hown hK hP 0 rfl rfl 2 (by decide) hf9 (fun _ h9 => h9) rfl dX0_takeLiteral_12 ?_
  refine lv_aload_n hx hb dX0_takeLiteral_15 rfl (lv_at hl 1 rfl) ?_
  refine va_get (v := .int (nI (xn S))) hx hb hts hinX0 hown hK hP 0 rfl rfl 4 (by decide) hf58 (fun _ h9 => h9) rfl dX0_takeLiteral_16 ?_
  refine lv_iload_n hx hb dX0_takeLiteral_19 rfl (lv_at hl 0 rfl) ?_
  refine xc_rs (w0 := [(q 1, .inl (cA, 40, .inl (xse S)))]) (As := [.ref (q 1), .int (nI (xn S)), .int w9]) (rest := []) ⟨hx, hb, hml, hown, hts⟩ (kX0_find l D cA (q 1) 40 (xn S) (xse S) w9 (by omega) (by decide)) (va_cwS 3 hts (gd_S bw_122 bw_123 bw_1 bw_124) rfl rfl rfl (by decide +kernel) ⟨Nat.le_of_ble_eq_true rfl, Nat.le_of_ble_eq_true rfl⟩) (hP.sub [1] rfl) hK rfl hl.1 rfl (Nat.le_of_ble_eq_true rfl) dX0_takeLiteral_20 ⟨Nat.zero_le _, Nat.zero_le _⟩ ?_
  refine lv_topi (fun z1 ez1 => ?_)
  obtain rfl : z1 = q_idx (q_find (vXL S) w9) := ez1.trans (congrArg q_idx (q_find_of _ _ (xnu S) _))
  refine lv_istore (lv' := [(4, .int (q_idx (q_find (vXL S) w9))), (3, .int w9), (0, .ref (q 0)), (1, .int (nI k)), (2, .int b)]) hx hb dX0_takeLiteral_23 hl (by decide) rfl (fun ls hl => ?_)
  refine lv_aload_n hx hb dX0_takeLiteral_25 rfl (lv_at hl 2 rfl) ?_
  refine va_get (v := .ref (q 1)) hx hb hts hinX0 hown hK hP 0 rfl rfl 2 (by decide) hf9 (fun _ h9 => h9) rfl dX0_takeLiteral_26 ?_
  refine lv_iload_n hx hb dX0_takeLiteral_29 rfl (lv_at hl 3 rfl) ?_
  refine lv_iload_n hx hb dX0_takeLiteral_30 rfl (lv_at hl 1 rfl) ?_
  refine xa_st hx hb hK hP hD hS 1 0 rfl rfl k (by omega) (by first | decide | assumption) dX0_takeLiteral_31 (fun H locs hP hD hS => ?_)
  have hP : va_P D vwCl (wX q cA (xk (xd S) (xt S) (xn S) (xm S) (xh S) (xg S) (upd (xse S) k w9) (xnu S) (xes S) (xel S) (xgi S) (xre S))) H := hP
  have hD : va_D _ (wX q cA (xk (xd S) (xt S) (xn S) (xm S) (xh S) (xg S) (upd (xse S) k w9) (xnu S) (xes S) (xel S) (xgi S) (xre S))) := hD
  refine lv_iload hx hb dX0_takeLiteral_32 (lv_at hl 0 rfl) ?_
  refine lv_iconst (v := (-1)) hx hb dX0_takeLiteral_34 (by decide) ?_
  refine lv_icmp_eq (tgt := 48) hx hb dX0_takeLiteral_35 (by decide) (fun hc35 => ?_) (fun hc35 => ?_)
  · have hpo : x_same S (xk (xd S) (xt S) (xn S) (xm S) (xh S) (xg S) (upd (xse S) k w9) (xnu S) (xes S) (xel S) (xgi S) (xre S)) ∧ vXL (xk (xd S) (xt S) (xn S) (xm S) (xh S) (xg S) (upd (xse S) k w9) (xnu S) (xes S) (xel S) (xgi S) (xre S)) = q_take (vXL S) k b := ⟨rfl, by
      have h2 := (q_find_m1 (by rw [vXL_len]; omega)).mp hc35
      unfold q_take
      rw [q_set_of hk9, q_num_of hk9, ← ew9, h2]
      exact st_cl (xse S) (xnu S) w9 hk9⟩
    exact W.vret hx hb hr (fun t ht hW => ⟨⟨(xk (xd S) (xt S) (xn S) (xm S) (xh S) (xg S) (upd (xse S) k w9) (xnu S) (xes S) (xel S) (xgi S) (xre S)), rfl, hpo, by rw [ht]; exact hP, va_K.moved hW.alike hK, hD⟩, hS.F ht⟩) hS.2.2 dX0_takeLiteral_48
  · obtain ⟨o, ho⟩ := some_of_ne (fun z => hc35 ((q_find_m1 (by rw [vXL_len]; omega)).mpr z))
    have ho2 : o < xn S := by
      have z := q_find_lt ho
      rw [vXL_len] at z
      exact z
    have hl : lv_has ls 5 [(4, .int (nI o)), (3, .int w9), (0, .ref (q 0)), (1, .int (nI k)), (2, .int b)] := by rw [ho] at hl; exact hl
    refine lv_aload_n hx hb dX0_takeLiteral_38 rfl (lv_at hl 2 rfl) ?_
    refine lv_iload_n hx hb dX0_takeLiteral_39 rfl (lv_at hl 3 rfl) ?_
    refine lv_iload hx hb dX0_takeLiteral_40 (lv_at hl 0 rfl) ?_
    refine va_mmax (rest := [.ref (q 0)]) hx hb (hml.trans hl.1.symm) hown (hts _ (List.mem_cons_of_mem _ bw_167)) (hts _ (List.mem_cons_of_mem _ bw_168)) (hts _ (List.mem_cons_of_mem _ bw_9)) (hts _ (List.mem_cons_of_mem _ bw_169)) (Nat.le_of_ble_eq_true rfl) (Nat.le_of_ble_eq_true rfl) (Nat.zero_le _) (Nat.zero_le _) dX0_takeLiteral_42 ?_
    refine lv_topi (fun z2 ez2 => ?_)
    obtain rfl : z2 = nI (max k o) := ez2.trans (k_max_nI (by omega) (by omega))
    refine xc_wv (As := [.int (nI (max k o))]) (rest := []) ⟨hx, hb, hml, hown, hts⟩ (kX0_remove l D q cA (xk (xd S) (xt S) (xn S) (xm S) (xh S) (xg S) (upd (xse S) k w9) (xnu S) (xes S) (xel S) (xgi S) (xre S)) ⟨hn40, hh200, hg100⟩ (max k o) (show max k o < xn S from by omega) _) (cwV 1 hts (gd_V bw_170 bw_171 bw_423 bw_1 bw_172) rfl rfl rfl (by decide +kernel) ⟨Nat.le_of_ble_eq_true rfl, Nat.le_of_ble_eq_true rfl⟩) (va_recv (ci := 0) (q0 := 0) hK hP rfl rfl) hP hK hD hS hA rfl hl.1 rfl (Nat.le_of_ble_eq_true rfl) dX0_takeLiteral_45 ⟨Nat.zero_le _, Nat.zero_le _⟩ (fun u3 H locs hu3 hP hD hS => ?_)
    have hpo : x_same S u3 ∧ vXL u3 = q_take (vXL S) k b := ⟨by rw [hu3]; rfl, by
      unfold q_take
      rw [q_set_of hk9, q_num_of hk9, ← ew9, ho, hu3]
      exact (rmv_cl (show max k o < xn S from by omega) _ _).trans (by rw [st_cl _ _ _ hk9])⟩
    exact W.vret hx hb hr (fun t ht hW => ⟨⟨u3, rfl, hpo, by rw [ht]; exact hP, va_K.moved hW.alike hK, hD⟩, hS.F ht⟩) hS.2.2 dX0_takeLiteral_48

set_option maxHeartbeats 4000000 in
set_option maxRecDepth 100000 in
theorem kX0_takeFromAll (l : Launch) (D : va_G) (q : Nat → Nat) (cA : ClassId) (S : XS) (hok : okX S) (b : Int32) (sz : Nat) : xw_Mv l yX0_takeFromAll wsX0_takeFromAll ({ frames := 2, cells := 0, slots := 0, locals := 47 }) D vwCl [(cA, .int)] [.ref (q 0), .int b] (wX q cA S) sz (fun u : XS => x_same S u ∧ vXL u = q_tfa b 40 (vXL S)) (wX q cA) := by
  refine Met.ofW (cc := cX0_takeFromAll) (maxL := 4) (ret := none) (by decide) rfl ?_
  intro p e s m args below meth c s₁ B hml hv
  obtain ⟨rfl, hsz, hP, hK, hD0⟩ := hv
  subst hsz
  have hD := hD0.self (sz := s.heap.size)
  have hA : ∀ z, s.heap.size ≤ z → va_A (wX q cA S) s.heap.size z := fun z h => Or.inr h
  have hS : va_S (va_A (wX q cA S) s.heap.size) s.heap s.heap [] := va_S.rf
  obtain ⟨hn40, hh200, hg100⟩ := id hok
  have hx := B.exec
  have hb := B.bytes
  have hr := B.returns
  have hts := atoms_spec (ws := wsX0_takeFromAll) B.pre
  have hown : s.vm.findClass RX0 = some m.cls := findClass_of_methodNamed B.named
  have hlocks := B.notSynchronized
  have hl := lv_entry ([.ref (q 0), .int b]) (n := 4) (Nat.le_of_ble_eq_true rfl)
  rw [lg_entry_eq]
  generalize (lg_sl ([.ref (q 0), .int b]) ++ List.replicate (4 - (lg_sl ([.ref (q 0), .int b])).length) Slot.unset).toArray = ls at hl ⊢
  have hl : lv_has ls 4 [(0, .ref (q 0)), (1, .int b)] := hl
  refine lv_iconst (v := 0) hx hb dX0_takeFromAll_0 (by decide) ?_
  refine lv_istore_n (lv' := [(2, .int 0), (0, .ref (q 0)), (1, .int b)]) hx hb dX0_takeFromAll_1 rfl hl (by decide) rfl (fun ls hl => ?_)
  refine wlw (σ := Nat × XS) (fun (x9 : Nat × XS) (H : Heap) (locs : List Loc) ls => match x9 with | (t, u) => lv_has ls 4 [(2, .int (nI t)), (0, .ref (q 0)), (1, .int b)] ∧ va_P D vwCl (wX q cA u) H ∧ va_D (va_A (wX q cA S) s.heap.size) (wX q cA u) ∧ va_S (va_A (wX q cA S) s.heap.size) s.heap H locs ∧ t ≤ 40 ∧ x_same S u ∧ xn u ≤ xn S ∧ q_tfa b 40 (vXL S) = q_tfa b (40 - t) (vXL u)) (fun (x9 : Nat × XS) => match x9 with | (t, u) => 40 - t) (0, S) ⟨lv_sub hl [0, 1, 2] rfl, hP, hD, hS, (Nat.zero_le _), (x_same.rf S), (Nat.le_refl _), rfl⟩ ?_
  intro x9 H locs ls hI ih2
  obtain ⟨t, u⟩ := x9
  obtain ⟨hl, hP, hD, hS, ht, hsm, hn, hq⟩ := hI
  have hl : lv_has ls 4 [(2, .int (nI t)), (0, .ref (q 0)), (1, .int b)] := hl
  refine lv_iload_n hx hb dX0_takeFromAll_2 rfl (lv_at hl 0 rfl) ?_
  refine lv_bipush (v := 40) hx hb dX0_takeFromAll_3 (by decide) ?_
  refine lv_icmp_ge (tgt := 32) hx hb dX0_takeFromAll_5 (by decide) (fun hc5 => ?_) (fun hc5 => ?_)
  · have hge : 40 ≤ t := (nI_leI (a := 40) (by decide) (by omega)).mp hc5
    have hpo : x_same S u ∧ vXL u = q_tfa b 40 (vXL S) := ⟨hsm, by rw [hq, show 40 - t = 0 by omega]; rfl⟩
    exact W.vret hx hb hr (fun t ht hW => ⟨⟨u, rfl, hpo, by rw [ht]; exact hP, va_K.moved hW.alike hK, hD⟩, hS.F ht⟩) hS.2.2 dX0_takeFromAll_32
  · have hlt : t < 40 := Nat.lt_of_not_le (fun z => hc5 ((nI_leI (a := 40) (by decide) (by omega)).mpr z))
    refine lv_aload_n hx hb dX0_takeFromAll_8 rfl (lv_at hl 1 rfl) ?_
    refine lv_iload_n hx hb dX0_takeFromAll_9 rfl (lv_at hl 2 rfl) ?_
    refine xc_rv (As := [.int b]) (rest := []) ⟨hx, hb, hml, hown, hts⟩ (kX0_firstWith l D q cA u (hsm.ok hok hn) b) (cwV 1 hts (gd_V bw_161 bw_162 bw_421 bw_1 bw_163) rfl rfl rfl (by decide +kernel) ⟨Nat.le_of_ble_eq_true rfl, Nat.le_of_ble_eq_true rfl⟩) (va_recv (ci := 0) (q0 := 0) hK hP rfl rfl) hP hK rfl hl.1 rfl (Nat.le_of_ble_eq_true rfl) dX0_takeFromAll_10 ⟨Nat.zero_le _, Nat.zero_le _⟩ ?_
    refine lv_istore_n (lv' := [(3, .int (q_idx (q_frst (vXL u) b))), (2, .int (nI t)), (0, .ref (q 0)), (1, .int b)]) hx hb dX0_takeFromAll_13 rfl hl (by decide) rfl (fun ls hl => ?_)
    refine lv_iload_n hx hb dX0_takeFromAll_14 rfl (lv_at hl 0 rfl) ?_
    refine lv_iconst (v := (-1)) hx hb dX0_takeFromAll_15 (by decide) ?_
    refine lv_icmp_ne (tgt := 20) hx hb dX0_takeFromAll_16 (by decide) (fun hc16 => ?_) (fun hc16 => ?_)
    · obtain ⟨k, hk⟩ := some_of_ne (fun z => hc16 ((q_frst_m1 (by rw [vXL_len]; omega)).mpr z))
      have hk2 : k < xn u := by
        have z := q_frst_lt hk
        rw [vXL_len] at z
        exact z
      have hl : lv_has ls 4 [(3, .int (nI k)), (2, .int (nI t)), (0, .ref (q 0)), (1, .int b)] := by rw [hk] at hl; exact hl
      refine lv_aload_n hx hb dX0_takeFromAll_20 rfl (lv_at hl 2 rfl) ?_
      refine lv_iload_n hx hb dX0_takeFromAll_21 rfl (lv_at hl 0 rfl) ?_
      refine lv_iload_n hx hb dX0_takeFromAll_22 rfl (lv_at hl 3 rfl) ?_
      refine xc_wv (As := [.int (nI k), .int b]) (rest := []) ⟨hx, hb, hml, hown, hts⟩ (kX0_takeLiteral l D q cA u (hsm.ok hok hn) k b hk2 _) (cwV 2 hts (gd_V bw_164 bw_165 bw_422 bw_1 bw_166) rfl rfl rfl (by decide +kernel) ⟨Nat.le_of_ble_eq_true rfl, Nat.le_of_ble_eq_true rfl⟩) (va_recv (ci := 0) (q0 := 0) hK hP rfl rfl) hP hK hD hS hA rfl hl.1 rfl (Nat.le_of_ble_eq_true rfl) dX0_takeFromAll_23 ⟨Nat.zero_le _, Nat.zero_le _⟩ (fun u1 H locs hu1 hP hD hS => ?_)
      refine lv_iinc (k := 1) (v := nI (t + 1)) (lv' := [(2, .int (nI (t + 1))), (3, .int (nI k)), (0, .ref (q 0)), (1, .int b)]) hx hb dX0_takeFromAll_26 hl rfl (ii_1 _) (by decide) rfl (fun ls hl => ?_)
      refine lv_goto (tgt := 2) hx hb dX0_takeFromAll_29 (by decide) ?_
      exact ih2 (t + 1, u1) _ _ _ ⟨lv_sub hl [0, 2, 3] rfl, hP, hD, hS, (by omega), (hsm.tr hu1.1), (Nat.le_trans (tk_len hu1.2) hn), (by rw [hq, tfa_some hk hlt, hu1.2])⟩ (by show 40 - (t + 1) < 40 - t; omega)
    · have hno := (q_frst_m1 (by rw [vXL_len]; omega)).mp hc16
      have hpo : x_same S u ∧ vXL u = q_tfa b 40 (vXL S) := ⟨hsm, by rw [hq, tfa_none hno]⟩
      exact W.vret hx hb hr (fun t ht hW => ⟨⟨u, rfl, hpo, by rw [ht]; exact hP, va_K.moved hW.alike hK, hD⟩, hS.F ht⟩) hS.2.2 dX0_takeFromAll_19

set_option maxHeartbeats 4000000 in
set_option maxRecDepth 100000 in
theorem kX0_dropSubsumed (l : Launch) (D : va_G) (q : Nat → Nat) (cA : ClassId) (S : XS) (hok : okX S)  (sz : Nat) : xw_Mi l yX0_dropSubsumed wsX0_dropSubsumed ({ frames := 1, cells := 0, slots := 0, locals := 22 }) D vwCl [(cA, .int)] [.ref (q 0)] (wX q cA S) sz (fun (r : Int32) (u : XS) => x_same S u ∧ (r, vXL u) = (match q_sub (vXL S) with | none => ((0 : Int32), vXL S) | some c => (1, (vXL S).eraseIdx c))) (wX q cA) := by
  refine Met.ofW (cc := cX0_dropSubsumed) (maxL := 2) (ret := (some .boolean)) (by decide) rfl ?_
  intro p e s m args below meth c s₁ B hml hv
  obtain ⟨rfl, hsz, hP, hK, hD0⟩ := hv
  subst hsz
  have hD := hD0.self (sz := s.heap.size)
  have hA : ∀ z, s.heap.size ≤ z → va_A (wX q cA S) s.heap.size z := fun z h => Or.inr h
  have hS : va_S (va_A (wX q cA S) s.heap.size) s.heap s.heap [] := va_S.rf
  obtain ⟨hn40, hh200, hg100⟩ := id hok
  have hx := B.exec
  have hb := B.bytes
  have hr := B.returns
  have hts := atoms_spec (ws := wsX0_dropSubsumed) B.pre
  have hown : s.vm.findClass RX0 = some m.cls := findClass_of_methodNamed B.named
  have hlocks := B.notSynchronized
  have hinX0 : ∀ w ∈ u_ws RX0 TX0 12, w ∈ wsX0_dropSubsumed := fun w h => List.mem_cons_of_mem _ (bw_X0 w h)
  have hf58 := hts _ (List.mem_cons_of_mem _ bw_23)
  have hl := lv_entry ([.ref (q 0)]) (n := 2) (Nat.le_of_ble_eq_true rfl)
  rw [lg_entry_eq]
  generalize (lg_sl ([.ref (q 0)]) ++ List.replicate (2 - (lg_sl ([.ref (q 0)])).length) Slot.unset).toArray = ls at hl ⊢
  have hl : lv_has ls 2 [(0, .ref (q 0))] := hl
  refine lv_iconst (v := 0) hx hb dX0_dropSubsumed_0 (by decide) ?_
  refine lv_istore_n (lv' := [(1, .int 0), (0, .ref (q 0))]) hx hb dX0_dropSubsumed_1 rfl hl (by decide) rfl (fun ls hl => ?_)
  refine wlr (σ := Nat) (fun (k : Nat) ls => lv_has ls 2 [(1, .int (nI k)), (0, .ref (q 0))] ∧ k ≤ xn S ∧ q_up (fun c => q_sub1 (vXL S) c) (xn S - 0) 0 = q_up (fun c => q_sub1 (vXL S) c) (xn S - k) k) (fun (k : Nat) => xn S - k) 0 ⟨lv_sub hl [0, 1] rfl, (by omega), rfl⟩ ?_
  intro k ls hI ih2
  obtain ⟨hl, hk, hq⟩ := hI
  have hl : lv_has ls 2 [(1, .int (nI k)), (0, .ref (q 0))] := hl
  refine lv_iload_n hx hb dX0_dropSubsumed_2 rfl (lv_at hl 0 rfl) ?_
  refine lv_aload_n hx hb dX0_dropSubsumed_3 rfl (lv_at hl 1 rfl) ?_
  refine va_get (v := .int (nI (xn S))) hx hb hts hinX0 hown hK hP 0 rfl rfl 4 (by decide) hf58 (fun _ h9 => h9) rfl dX0_dropSubsumed_4 ?_
  refine lv_icmp_ge (tgt := 31) hx hb dX0_dropSubsumed_7 (by decide) (fun hc7 => ?_) (fun hc7 => ?_)
  · have hge : xn S ≤ k := (nI_leI (by omega) (by omega)).mp hc7
    refine lv_iconst (v := 0) hx hb dX0_dropSubsumed_31 (by decide) ?_
    have hpo : x_same S S ∧ (0, vXL S) = (match q_sub (vXL S) with | none => ((0 : Int32), vXL S) | some c => (1, (vXL S).eraseIdx c)) := ⟨x_same.rf S, by rw [show q_sub (vXL S) = q_up (fun c => q_sub1 (vXL S) c) (xn S - 0) 0 from by unfold q_sub; rw [cl_of_len]; rfl, hq, q_up_end hge]⟩
    exact W.zret (v := 0) hx hb hr (by rfl) (fun t ht hW => ⟨⟨0, S, rfl, hpo, by rw [ht]; exact hP, va_K.moved hW.alike hK, hD⟩, hS.F ht⟩) hS.2.2 dX0_dropSubsumed_32
  · have hlt : k < xn S := Nat.lt_of_not_le (fun z => hc7 ((nI_leI (by omega) (by omega)).mpr z))
    refine lv_aload_n hx hb dX0_dropSubsumed_10 rfl (lv_at hl 1 rfl) ?_
    refine lv_iload_n hx hb dX0_dropSubsumed_11 rfl (lv_at hl 0 rfl) ?_
    refine xc_rv (As := [.int (nI k)]) (rest := []) ⟨hx, hb, hml, hown, hts⟩ (kX0_isSubsumed l D q cA S hok k (by omega)) (cwV 1 hts (gd_V bw_176 bw_177 bw_425 bw_1 bw_178) rfl rfl rfl (by decide +kernel) ⟨Nat.le_of_ble_eq_true rfl, Nat.le_of_ble_eq_true rfl⟩) (va_recv (ci := 0) (q0 := 0) hK hP rfl rfl) hP hK rfl hl.1 rfl (Nat.le_of_ble_eq_true rfl) dX0_dropSubsumed_12 ⟨Nat.zero_le _, Nat.zero_le _⟩ ?_
    refine lv_if_eq (tgt := 25) hx hb dX0_dropSubsumed_15 (by decide) (fun hc15 => ?_) (fun hc15 => ?_)
    · have hc15 := kb_0.mp hc15
      refine lv_iinc (k := 0) (v := nI (k + 1)) (lv' := [(1, .int (nI (k + 1))), (0, .ref (q 0))]) hx hb dX0_dropSubsumed_25 hl rfl (ii_1 _) (by decide) rfl (fun ls hl => ?_)
      refine lv_goto (tgt := 2) hx hb dX0_dropSubsumed_28 (by decide) ?_
      exact ih2 (k + 1) _ ⟨lv_sub hl [0, 1] rfl, (by omega), hq.trans (q_up_f hlt (by simp [hc15]))⟩ (by omega)
    · have hc15 := kb_n0.mp hc15
      refine lv_aload_n hx hb dX0_dropSubsumed_18 rfl (lv_at hl 1 rfl) ?_
      refine lv_iload_n hx hb dX0_dropSubsumed_19 rfl (lv_at hl 0 rfl) ?_
      refine xc_wv (As := [.int (nI k)]) (rest := []) ⟨hx, hb, hml, hown, hts⟩ (kX0_remove l D q cA S hok k (by omega) _) (cwV 1 hts (gd_V bw_170 bw_171 bw_423 bw_1 bw_172) rfl rfl rfl (by decide +kernel) ⟨Nat.le_of_ble_eq_true rfl, Nat.le_of_ble_eq_true rfl⟩) (va_recv (ci := 0) (q0 := 0) hK hP rfl rfl) hP hK hD hS hA rfl hl.1 rfl (Nat.le_of_ble_eq_true rfl) dX0_dropSubsumed_20 ⟨Nat.zero_le _, Nat.zero_le _⟩ (fun u1 H locs hu1 hP hD hS => ?_)
      refine lv_iconst (v := 1) hx hb dX0_dropSubsumed_23 (by decide) ?_
      have hpo : x_same S u1 ∧ (1, vXL u1) = (match q_sub (vXL S) with | none => ((0 : Int32), vXL S) | some c => (1, (vXL S).eraseIdx c)) := ⟨by rw [hu1]; rfl, by
        rw [show q_sub (vXL S) = q_up (fun c => q_sub1 (vXL S) c) (xn S - 0) 0 from by unfold q_sub; rw [cl_of_len]; rfl, hq, q_up_t hlt hc15, hu1]
        exact congrArg (Prod.mk (1 : Int32)) (rmv_cl hlt (xse S) (xnu S))⟩
      exact W.zret (v := 1) hx hb hr (by rfl) (fun t ht hW => ⟨⟨1, u1, rfl, hpo, by rw [ht]; exact hP, va_K.moved hW.alike hK, hD⟩, hS.F ht⟩) hS.2.2 dX0_dropSubsumed_24

set_option maxHeartbeats 4000000 in
set_option maxRecDepth 100000 in
theorem kX0_strengthen (l : Launch) (D : va_G) (q : Nat → Nat) (cA : ClassId) (S : XS) (hok : okX S)  (sz : Nat) : xw_Mi l yX0_strengthen wsX0_strengthen ({ frames := 3, cells := 0, slots := 0, locals := 62 }) D vwCl [(cA, .int)] [.ref (q 0)] (wX q cA S) sz (fun (r : Int32) (u : XS) => x_same S u ∧ (r, vXL u) = (match q_str (vXL S) with | none => ((0 : Int32), vXL S) | some c => q_stN (vXL S) c)) (wX q cA) := by
  refine Met.ofW (cc := cX0_strengthen) (maxL := 4) (ret := (some .boolean)) (by decide) rfl ?_
  intro p e s m args below meth c s₁ B hml hv
  obtain ⟨rfl, hsz, hP, hK, hD0⟩ := hv
  subst hsz
  have hD := hD0.self (sz := s.heap.size)
  have hA : ∀ z, s.heap.size ≤ z → va_A (wX q cA S) s.heap.size z := fun z h => Or.inr h
  have hS : va_S (va_A (wX q cA S) s.heap.size) s.heap s.heap [] := va_S.rf
  obtain ⟨hn40, hh200, hg100⟩ := id hok
  have hx := B.exec
  have hb := B.bytes
  have hr := B.returns
  have hts := atoms_spec (ws := wsX0_strengthen) B.pre
  have hown : s.vm.findClass RX0 = some m.cls := findClass_of_methodNamed B.named
  have hlocks := B.notSynchronized
  have hinX0 : ∀ w ∈ u_ws RX0 TX0 12, w ∈ wsX0_strengthen := fun w h => List.mem_cons_of_mem _ (bw_X0 w h)
  have hf9 := hts _ (List.mem_cons_of_mem _ bw_21)
  have hf58 := hts _ (List.mem_cons_of_mem _ bw_23)
  have hl := lv_entry ([.ref (q 0)]) (n := 4) (Nat.le_of_ble_eq_true rfl)
  rw [lg_entry_eq]
  generalize (lg_sl ([.ref (q 0)]) ++ List.replicate (4 - (lg_sl ([.ref (q 0)])).length) Slot.unset).toArray = ls at hl ⊢
  have hl : lv_has ls 4 [(0, .ref (q 0))] := hl
  refine lv_iconst (v := 0) hx hb dX0_strengthen_0 (by decide) ?_
  refine lv_istore_n (lv' := [(1, .int 0), (0, .ref (q 0))]) hx hb dX0_strengthen_1 rfl hl (by decide) rfl (fun ls hl => ?_)
  refine wlr (σ := Nat) (fun (k : Nat) ls => lv_has ls 4 [(1, .int (nI k)), (0, .ref (q 0))] ∧ k ≤ xn S ∧ q_up (fun c => (q_st1 (vXL S) c).isSome) (xn S - 0) 0 = q_up (fun c => (q_st1 (vXL S) c).isSome) (xn S - k) k) (fun (k : Nat) => xn S - k) 0 ⟨lv_sub hl [0, 1] rfl, (by omega), rfl⟩ ?_
  intro k ls hI ih2
  obtain ⟨hl, hk, hq⟩ := hI
  have hl : lv_has ls 4 [(1, .int (nI k)), (0, .ref (q 0))] := hl
  refine lv_iload_n hx hb dX0_strengthen_2 rfl (lv_at hl 0 rfl) ?_
  refine lv_aload_n hx hb dX0_strengthen_3 rfl (lv_at hl 1 rfl) ?_
  refine va_get (v := .int (nI (xn S))) hx hb hts hinX0 hown hK hP 0 rfl rfl 4 (by decide) hf58 (fun _ h9 => h9) rfl dX0_strengthen_4 ?_
  refine lv_icmp_ge (tgt := 60) hx hb dX0_strengthen_7 (by decide) (fun hc7 => ?_) (fun hc7 => ?_)
  · have hge : xn S ≤ k := (nI_leI (by omega) (by omega)).mp hc7
    refine lv_iconst (v := 0) hx hb dX0_strengthen_60 (by decide) ?_
    have hpo : x_same S S ∧ (0, vXL S) = (match q_str (vXL S) with | none => ((0 : Int32), vXL S) | some c => q_stN (vXL S) c) := ⟨x_same.rf S, by rw [show q_str (vXL S) = q_up (fun c => (q_st1 (vXL S) c).isSome) (xn S - 0) 0 from by unfold q_str; rw [cl_of_len]; rfl, hq, q_up_end hge]⟩
    exact W.zret (v := 0) hx hb hr (by rfl) (fun t ht hW => ⟨⟨0, S, rfl, hpo, by rw [ht]; exact hP, va_K.moved hW.alike hK, hD⟩, hS.F ht⟩) hS.2.2 dX0_strengthen_61
  · have hlt : k < xn S := Nat.lt_of_not_le (fun z => hc7 ((nI_leI (by omega) (by omega)).mpr z))
    have hsk : q_set (vXL S) k = xse S k := q_set_of hlt
    have e1 : q_st1 (vXL S) k = q_up (fun d => k_sl (q_set (vXL S) k) (q_set (vXL S) d) != 0) (xn S - 0) 0 := by unfold q_st1; rw [cl_of_len]; rfl
    refine lv_iconst (v := 0) hx hb dX0_strengthen_10 (by decide) ?_
    refine lv_istore_n (lv' := [(2, .int 0), (1, .int (nI k)), (0, .ref (q 0))]) hx hb dX0_strengthen_11 rfl hl (by decide) rfl (fun ls hl => ?_)
    refine wlr (σ := Nat) (fun (j : Nat) ls => lv_has ls 4 [(2, .int (nI j)), (1, .int (nI k)), (0, .ref (q 0))] ∧ j ≤ xn S ∧ q_up (fun d => k_sl (q_set (vXL S) k) (q_set (vXL S) d) != 0) (xn S - 0) 0 = q_up (fun d => k_sl (q_set (vXL S) k) (q_set (vXL S) d) != 0) (xn S - j) j) (fun (j : Nat) => xn S - j) 0 ⟨lv_sub hl [0, 1, 2] rfl, (by omega), rfl⟩ ?_
    intro j ls hI ih12
    obtain ⟨hl, hk2, hq2⟩ := hI
    have hl : lv_has ls 4 [(2, .int (nI j)), (1, .int (nI k)), (0, .ref (q 0))] := hl
    refine lv_iload_n hx hb dX0_strengthen_12 rfl (lv_at hl 0 rfl) ?_
    refine lv_aload_n hx hb dX0_strengthen_13 rfl (lv_at hl 2 rfl) ?_
    refine va_get (v := .int (nI (xn S))) hx hb hts hinX0 hown hK hP 0 rfl rfl 4 (by decide) hf58 (fun _ h9 => h9) rfl dX0_strengthen_14 ?_
    refine lv_icmp_ge (tgt := 54) hx hb dX0_strengthen_17 (by decide) (fun hc17 => ?_) (fun hc17 => ?_)
    · have hge2 : xn S ≤ j := (nI_leI (by omega) (by omega)).mp hc17
      have hn1 : q_st1 (vXL S) k = none := by rw [e1, hq2, q_up_end hge2]
      refine lv_iinc (k := 1) (v := nI (k + 1)) (lv' := [(1, .int (nI (k + 1))), (2, .int (nI j)), (0, .ref (q 0))]) hx hb dX0_strengthen_54 hl rfl (ii_1 _) (by decide) rfl (fun ls hl => ?_)
      refine lv_goto (tgt := 2) hx hb dX0_strengthen_57 (by decide) ?_
      exact ih2 (k + 1) _ ⟨lv_sub hl [0, 2] rfl, (by omega), hq.trans (q_up_f hlt (by simp [hn1]))⟩ (by omega)
    · have hlt2 : j < xn S := Nat.lt_of_not_le (fun z => hc17 ((nI_leI (by omega) (by omega)).mpr z))
      have hs : q_set (vXL S) j = xse S j := q_set_of hlt2
      refine lv_aload_n hx hb dX0_strengthen_20 rfl (lv_at hl 2 rfl) ?_
      refine va_get (v := .ref (q 1)) hx hb hts hinX0 hown hK hP 0 rfl rfl 2 (by decide) hf9 (fun _ h9 => h9) rfl dX0_strengthen_21 ?_
      refine lv_iload_n hx hb dX0_strengthen_24 rfl (lv_at hl 1 rfl) ?_
      refine xa_ld hx hb hK hP 1 0 rfl rfl k (by omega) (by first | decide | assumption) dX0_strengthen_25 ?_
      refine lv_aload_n hx hb dX0_strengthen_26 rfl (lv_at hl 2 rfl) ?_
      refine va_get (v := .ref (q 1)) hx hb hts hinX0 hown hK hP 0 rfl rfl 2 (by decide) hf9 (fun _ h9 => h9) rfl dX0_strengthen_27 ?_
      refine lv_iload_n hx hb dX0_strengthen_30 rfl (lv_at hl 0 rfl) ?_
      refine xa_ld hx hb hK hP 1 0 rfl rfl j (by omega) (by first | decide | assumption) dX0_strengthen_31 ?_
      refine xc_s (As := [.int ((xse S) k), .int ((xse S) j)]) (rest := []) ⟨hx, hb, hml, hown, hts⟩ (kX0_strengthenedLiteral l ((xse S) k) ((xse S) j)) (va_cwS 2 hts (gd_S bw_182 bw_183 bw_1 bw_184) rfl rfl rfl (by decide +kernel) ⟨Nat.le_of_ble_eq_true rfl, Nat.le_of_ble_eq_true rfl⟩) rfl hl.1 rfl (Nat.le_of_ble_eq_true rfl) dX0_strengthen_32 ⟨Nat.zero_le _, Nat.zero_le _⟩ ?_
      refine lv_istore_n (lv' := [(3, .int (k_sl ((xse S) k) ((xse S) j))), (2, .int (nI j)), (1, .int (nI k)), (0, .ref (q 0))]) hx hb dX0_strengthen_35 rfl hl (by decide) rfl (fun ls hl => ?_)
      refine lv_iload_n hx hb dX0_strengthen_36 rfl (lv_at hl 0 rfl) ?_
      refine lv_if_eq (tgt := 48) hx hb dX0_strengthen_37 (by decide) (fun hc37 => ?_) (fun hc37 => ?_)
      · refine lv_iinc (k := 1) (v := nI (j + 1)) (lv' := [(2, .int (nI (j + 1))), (3, .int (k_sl ((xse S) k) ((xse S) j))), (1, .int (nI k)), (0, .ref (q 0))]) hx hb dX0_strengthen_48 hl rfl (ii_1 _) (by decide) rfl (fun ls hl => ?_)
        refine lv_goto (tgt := 12) hx hb dX0_strengthen_51 (by decide) ?_
        exact ih12 (j + 1) _ ⟨lv_sub hl [0, 2, 3] rfl, (by omega), hq2.trans (q_up_f hlt2 (by simp [hc37, hs, hsk]))⟩ (by omega)
      · refine lv_aload_n hx hb dX0_strengthen_40 rfl (lv_at hl 3 rfl) ?_
        refine lv_iload_n hx hb dX0_strengthen_41 rfl (lv_at hl 2 rfl) ?_
        refine lv_iload_n hx hb dX0_strengthen_42 rfl (lv_at hl 0 rfl) ?_
        refine xc_wv (As := [.int (nI k), .int (k_sl ((xse S) k) ((xse S) j))]) (rest := []) ⟨hx, hb, hml, hown, hts⟩ (kX0_takeLiteral l D q cA S hok k (k_sl ((xse S) k) ((xse S) j)) (by omega) _) (cwV 2 hts (gd_V bw_164 bw_165 bw_422 bw_1 bw_166) rfl rfl rfl (by decide +kernel) ⟨Nat.le_of_ble_eq_true rfl, Nat.le_of_ble_eq_true rfl⟩) (va_recv (ci := 0) (q0 := 0) hK hP rfl rfl) hP hK hD hS hA rfl hl.1 rfl (Nat.le_of_ble_eq_true rfl) dX0_strengthen_43 ⟨Nat.zero_le _, Nat.zero_le _⟩ (fun u1 H locs hu1 hP hD hS => ?_)
        refine lv_iconst (v := 1) hx hb dX0_strengthen_46 (by decide) ?_
        have hpo : x_same S u1 ∧ (1, vXL u1) = (match q_str (vXL S) with | none => ((0 : Int32), vXL S) | some c => q_stN (vXL S) c) := ⟨hu1.1, by
          have f1 : q_st1 (vXL S) k = some j := by rw [e1, hq2, q_up_t hlt2 (by simp [hs, hsk, hc37])]
          rw [show q_str (vXL S) = q_up (fun c => (q_st1 (vXL S) c).isSome) (xn S - 0) 0 from by unfold q_str; rw [cl_of_len]; rfl, hq, q_up_t hlt (by simp [f1])]
          show ((1 : Int32), vXL u1) = q_stN (vXL S) k
          unfold q_stN
          rw [f1, hu1.2]
          show ((1 : Int32), _) = (1, q_take (vXL S) k (k_sl (q_set (vXL S) k) (q_set (vXL S) j)))
          rw [hs, hsk]⟩
        exact W.zret (v := 1) hx hb hr (by rfl) (fun t ht hW => ⟨⟨1, u1, rfl, hpo, by rw [ht]; exact hP, va_K.moved hW.alike hK, hD⟩, hS.F ht⟩) hS.2.2 dX0_strengthen_47
