/-! The class: turns of a step. -/
set_option maxHeartbeats 4000000 in
set_option maxRecDepth 100000 in
theorem kX0_propagateUnit (l : Launch) (D : va_G) (q : Nat → Nat) (cA : ClassId) (S : XS) (hok : okX S) (hroom : p_unit (vXL S) ≠ none → xh S < 200) (sz : Nat) : xw_Mi l yX0_propagateUnit wsX0_propagateUnit ({ frames := 3, cells := 0, slots := 0, locals := 70 }) D vwCl [(cA, .int)] [.ref (q 0)] (wX q cA S) sz (fun (r : Int32) (u : XS) => x_samT S u ∧ (r, vXL u, vXT u) = v_turn 0 (vXL S) (vXT S)) (wX q cA) := by
  refine Met.ofW (cc := cX0_propagateUnit) (maxL := 3) (ret := (some .boolean)) (by decide) rfl ?_
  intro p e s m args below meth c s₁ B hml hv
  obtain ⟨rfl, hsz, hP, hK, hD0⟩ := hv
  subst hsz
  have hD := hD0.self (sz := s.heap.size)
  have hA : ∀ z, s.heap.size ≤ z → va_A (wX q cA S) s.heap.size z := fun z h => Or.inr h
  have hS : va_S (va_A (wX q cA S) s.heap.size) s.heap s.heap [] := va_S.rf
  obtain ⟨hn40, hh200, hg100⟩ := id hok
  have hx := B.exec
  have hb := B.bytes
  have hr := B.returns
  have hts := atoms_spec (ws := wsX0_propagateUnit) B.pre
  have hown : s.vm.findClass RX0 = some m.cls := findClass_of_methodNamed B.named
  have hlocks := B.notSynchronized
  have hinX0 : ∀ w ∈ u_ws RX0 TX0 12, w ∈ wsX0_propagateUnit := fun w h => List.mem_cons_of_mem _ (bw_X0 w h)
  have hf9 := hts _ (List.mem_cons_of_mem _ bw_21)
  have hf58 := hts _ (List.mem_cons_of_mem _ bw_23)
  have hl := lv_entry ([.ref (q 0)]) (n := 3) (Nat.le_of_ble_eq_true rfl)
  rw [lg_entry_eq]
  generalize (lg_sl ([.ref (q 0)]) ++ List.replicate (3 - (lg_sl ([.ref (q 0)])).length) Slot.unset).toArray = ls at hl ⊢
  have hl : lv_has ls 3 [(0, .ref (q 0))] := hl
  refine lv_iconst (v := 0) hx hb dX0_propagateUnit_0 (by decide) ?_
  refine lv_istore_n (lv' := [(1, .int 0), (0, .ref (q 0))]) hx hb dX0_propagateUnit_1 rfl hl (by decide) rfl (fun ls hl => ?_)
  refine wlr (σ := Nat) (fun (k : Nat) ls => lv_has ls 3 [(1, .int (nI k)), (0, .ref (q 0))] ∧ k ≤ xn S ∧ q_up (fun k => k_sing (q_set (vXL S) k)) (xn S - 0) 0 = q_up (fun k => k_sing (q_set (vXL S) k)) (xn S - k) k) (fun (k : Nat) => xn S - k) 0 ⟨lv_sub hl [0, 1] rfl, (by omega), rfl⟩ ?_
  intro k ls hI ih2
  obtain ⟨hl, hk, hq⟩ := hI
  have hl : lv_has ls 3 [(1, .int (nI k)), (0, .ref (q 0))] := hl
  refine lv_iload_n hx hb dX0_propagateUnit_2 rfl (lv_at hl 0 rfl) ?_
  refine lv_aload_n hx hb dX0_propagateUnit_3 rfl (lv_at hl 1 rfl) ?_
  refine va_get (v := .int (nI (xn S))) hx hb hts hinX0 hown hK hP 0 rfl rfl 4 (by decide) hf58 (fun _ h9 => h9) rfl dX0_propagateUnit_4 ?_
  refine lv_icmp_ge (tgt := 51) hx hb dX0_propagateUnit_7 (by decide) (fun hc7 => ?_) (fun hc7 => ?_)
  · have hge : xn S ≤ k := (nI_leI (by omega) (by omega)).mp hc7
    refine lv_iconst (v := 0) hx hb dX0_propagateUnit_51 (by decide) ?_
    have hpo : x_samT S S ∧ (0, vXL S, vXT S) = v_turn 0 (vXL S) (vXT S) := ⟨(x_same.rf S).T, by rw [vt_0n (by rw [show p_unit (vXL S) = q_up (fun k => k_sing (q_set (vXL S) k)) (xn S - 0) 0 from by unfold p_unit; rw [cl_of_len]; rfl, hq, q_up_end hge])]⟩
    exact W.zret (v := 0) hx hb hr (by rfl) (fun t ht hW => ⟨⟨0, S, rfl, hpo, by rw [ht]; exact hP, va_K.moved hW.alike hK, hD⟩, hS.F ht⟩) hS.2.2 dX0_propagateUnit_52
  · have hlt : k < xn S := Nat.lt_of_not_le (fun z => hc7 ((nI_leI (by omega) (by omega)).mpr z))
    have hs : q_set (vXL S) k = xse S k := q_set_of hlt
    refine lv_aload_n hx hb dX0_propagateUnit_10 rfl (lv_at hl 1 rfl) ?_
    refine va_get (v := .ref (q 1)) hx hb hts hinX0 hown hK hP 0 rfl rfl 2 (by decide) hf9 (fun _ h9 => h9) rfl dX0_propagateUnit_11 ?_
    refine lv_iload_n hx hb dX0_propagateUnit_14 rfl (lv_at hl 0 rfl) ?_
    refine xa_ld hx hb hK hP 1 0 rfl rfl k (by omega) (by first | decide | assumption) dX0_propagateUnit_15 ?_
    refine lv_istore_n (lv' := [(2, .int ((xse S) k)), (1, .int (nI k)), (0, .ref (q 0))]) hx hb dX0_propagateUnit_16 rfl hl (by decide) rfl (fun ls hl => ?_)
    refine lv_iload_n hx hb dX0_propagateUnit_17 rfl (lv_at hl 0 rfl) ?_
    refine xc_s (As := [.int ((xse S) k)]) (rest := []) ⟨hx, hb, hml, hown, hts⟩ (kX0_isSingle l ((xse S) k)) (va_cwS 1 hts (gd_S bw_146 bw_147 bw_1 bw_148) rfl rfl rfl (by decide +kernel) ⟨Nat.le_of_ble_eq_true rfl, Nat.le_of_ble_eq_true rfl⟩) rfl hl.1 rfl (Nat.le_of_ble_eq_true rfl) dX0_propagateUnit_18 ⟨Nat.zero_le _, Nat.zero_le _⟩ ?_
    refine lv_if_eq (tgt := 45) hx hb dX0_propagateUnit_21 (by decide) (fun hc21 => ?_) (fun hc21 => ?_)
    · have hc21 := kb_0.mp hc21
      refine lv_iinc (k := 1) (v := nI (k + 1)) (lv' := [(1, .int (nI (k + 1))), (2, .int ((xse S) k)), (0, .ref (q 0))]) hx hb dX0_propagateUnit_45 hl rfl (ii_1 _) (by decide) rfl (fun ls hl => ?_)
      refine lv_goto (tgt := 2) hx hb dX0_propagateUnit_48 (by decide) ?_
      exact ih2 (k + 1) _ ⟨lv_sub hl [0, 2] rfl, (by omega), hq.trans (q_up_f hlt (by simp [hc21, hs]))⟩ (by omega)
    · have hc21 := kb_n0.mp hc21
      have hun : p_unit (vXL S) = some k := by rw [show p_unit (vXL S) = q_up (fun k => k_sing (q_set (vXL S) k)) (xn S - 0) 0 from by unfold p_unit; rw [cl_of_len]; rfl, hq, q_up_t hlt (by simp [hs, hc21])]
      have hr9 : xh S < 200 := hroom (by rw [hun]; exact Option.some_ne_none _)
      refine lv_aload_n hx hb dX0_propagateUnit_24 rfl (lv_at hl 2 rfl) ?_
      refine lv_iload_n hx hb dX0_propagateUnit_25 rfl (lv_at hl 0 rfl) ?_
      refine lv_iload_n hx hb dX0_propagateUnit_26 rfl (lv_at hl 0 rfl) ?_
      refine xc_wv (As := [.int ((xse S) k), .int ((xse S) k)]) (rest := []) ⟨hx, hb, hml, hown, hts⟩ (kX0_push l D q cA S hok ((xse S) k) ((xse S) k) hr9 _) (cwV 2 hts (gd_V bw_149 bw_150 bw_418 bw_1 bw_151) rfl rfl rfl (by decide +kernel) ⟨Nat.le_of_ble_eq_true rfl, Nat.le_of_ble_eq_true rfl⟩) (va_recv (ci := 0) (q0 := 0) hK hP rfl rfl) hP hK hD hS hA rfl hl.1 rfl (Nat.le_of_ble_eq_true rfl) dX0_propagateUnit_27 ⟨Nat.zero_le _, Nat.zero_le _⟩ (fun u1 H locs hu1 hP hD hS => ?_)
      have hok1 : okX u1 := by rw [hu1]; exact ⟨hn40, (show xh S + 1 ≤ 200 by omega), hg100⟩
      refine lv_aload_n hx hb dX0_propagateUnit_30 rfl (lv_at hl 2 rfl) ?_
      refine lv_iload_n hx hb dX0_propagateUnit_31 rfl (lv_at hl 0 rfl) ?_
      refine xc_wv (As := [.int ((xse S) k)]) (rest := []) ⟨hx, hb, hml, hown, hts⟩ (kX0_removeAllWith l D q cA u1 hok1 ((xse S) k) _) (cwV 1 hts (gd_V bw_152 bw_153 bw_419 bw_1 bw_154) rfl rfl rfl (by decide +kernel) ⟨Nat.le_of_ble_eq_true rfl, Nat.le_of_ble_eq_true rfl⟩) (va_recv (ci := 0) (q0 := 0) hK hP rfl rfl) hP hK hD hS hA rfl hl.1 rfl (Nat.le_of_ble_eq_true rfl) dX0_propagateUnit_32 ⟨Nat.zero_le _, Nat.zero_le _⟩ (fun u3 H locs hu3 hP hD hS => ?_)
      have hok2 : okX u3 := hu3.1.ok hok1 (by rw [← vXL_len u3, ← vXL_len u1, hu3.2]; exact List.length_filter_le _ _)
      refine lv_aload_n hx hb dX0_propagateUnit_35 rfl (lv_at hl 2 rfl) ?_
      refine lv_iload_n hx hb dX0_propagateUnit_36 rfl (lv_at hl 0 rfl) ?_
      refine xc_s (As := [.int ((xse S) k)]) (rest := [.ref (q 0)]) ⟨hx, hb, hml, hown, hts⟩ (kX0_contrary l ((xse S) k)) (va_cwS 1 hts (gd_S bw_155 bw_156 bw_1 bw_157) rfl rfl rfl (by decide +kernel) ⟨Nat.le_of_ble_eq_true rfl, Nat.le_of_ble_eq_true rfl⟩) rfl hl.1 rfl (Nat.le_of_ble_eq_true rfl) dX0_propagateUnit_37 ⟨Nat.zero_le _, Nat.zero_le _⟩ ?_
      refine xc_wv (As := [.int (k_con ((xse S) k))]) (rest := []) ⟨hx, hb, hml, hown, hts⟩ (kX0_takeFromAll l D q cA u3 hok2 (k_con ((xse S) k)) _) (cwV 1 hts (gd_V bw_158 bw_159 bw_420 bw_1 bw_160) rfl rfl rfl (by decide +kernel) ⟨Nat.le_of_ble_eq_true rfl, Nat.le_of_ble_eq_true rfl⟩) (va_recv (ci := 0) (q0 := 0) hK hP rfl rfl) hP hK hD hS hA rfl hl.1 rfl (Nat.le_of_ble_eq_true rfl) dX0_propagateUnit_40 ⟨Nat.zero_le _, Nat.zero_le _⟩ (fun u5 H locs hu5 hP hD hS => ?_)
      refine lv_iconst (v := 1) hx hb dX0_propagateUnit_43 (by decide) ?_
      have hpo : x_samT S u5 ∧ (1, vXL u5, vXT u5) = v_turn 0 (vXL S) (vXT S) := ⟨(show x_samT S u1 by rw [hu1]; rfl).tr (hu3.1.T.tr hu5.1.T), by
        have t1 : vXT u1 = vXT S ++ [(xse S k, xse S k)] := by rw [hu1]; exact mk_cl _ _ _ _ _
        have l1 : vXL u1 = vXL S := by rw [hu1]
        rw [vt_0s hun (by rw [vXT_len]; exact hr9), hs, hu5.1.TT, hu3.1.TT, t1, hu5.2, hu3.2, l1]⟩
      exact W.zret (v := 1) hx hb hr (by rfl) (fun t ht hW => ⟨⟨1, u5, rfl, hpo, by rw [ht]; exact hP, va_K.moved hW.alike hK, hD⟩, hS.F ht⟩) hS.2.2 dX0_propagateUnit_44

set_option maxHeartbeats 4000000 in
set_option maxRecDepth 100000 in
theorem kX0_dropBlocked (l : Launch) (D : va_G) (q : Nat → Nat) (cA : ClassId) (S : XS) (hok : okX S) (hroom : q_blk (vXL S) ≠ none → xh S < 200) (sz : Nat) : xw_Mi l yX0_dropBlocked wsX0_dropBlocked ({ frames := 3, cells := 0, slots := 0, locals := 69 }) D vwCl [(cA, .int)] [.ref (q 0)] (wX q cA S) sz (fun (r : Int32) (u : XS) => x_samT S u ∧ (r, vXL u, vXT u) = v_turn 3 (vXL S) (vXT S)) (wX q cA) := by
  refine Met.ofW (cc := cX0_dropBlocked) (maxL := 4) (ret := (some .boolean)) (by decide) rfl ?_
  intro p e s m args below meth c s₁ B hml hv
  obtain ⟨rfl, hsz, hP, hK, hD0⟩ := hv
  subst hsz
  have hD := hD0.self (sz := s.heap.size)
  have hA : ∀ z, s.heap.size ≤ z → va_A (wX q cA S) s.heap.size z := fun z h => Or.inr h
  have hS : va_S (va_A (wX q cA S) s.heap.size) s.heap s.heap [] := va_S.rf
  obtain ⟨hn40, hh200, hg100⟩ := id hok
  have hx := B.exec
  have hb := B.bytes
  have hr := B.returns
  have hts := atoms_spec (ws := wsX0_dropBlocked) B.pre
  have hown : s.vm.findClass RX0 = some m.cls := findClass_of_methodNamed B.named
  have hlocks := B.notSynchronized
  have hinX0 : ∀ w ∈ u_ws RX0 TX0 12, w ∈ wsX0_dropBlocked := fun w h => List.mem_cons_of_mem _ (bw_X0 w h)
  have hf9 := hts _ (List.mem_cons_of_mem _ bw_21)
  have hf58 := hts _ (List.mem_cons_of_mem _ bw_23)
  have hl := lv_entry ([.ref (q 0)]) (n := 4) (Nat.le_of_ble_eq_true rfl)
  rw [lg_entry_eq]
  generalize (lg_sl ([.ref (q 0)]) ++ List.replicate (4 - (lg_sl ([.ref (q 0)])).length) Slot.unset).toArray = ls at hl ⊢
  have hl : lv_has ls 4 [(0, .ref (q 0))] := hl
  refine lv_iconst (v := 0) hx hb dX0_dropBlocked_0 (by decide) ?_
  refine lv_istore_n (lv' := [(1, .int 0), (0, .ref (q 0))]) hx hb dX0_dropBlocked_1 rfl hl (by decide) rfl (fun ls hl => ?_)
  refine wlr (σ := Nat) (fun (k : Nat) ls => lv_has ls 4 [(1, .int (nI k)), (0, .ref (q 0))] ∧ k ≤ xn S ∧ q_up (fun c => q_bl (vXL S) (q_set (vXL S) c) != 0) (xn S - 0) 0 = q_up (fun c => q_bl (vXL S) (q_set (vXL S) c) != 0) (xn S - k) k) (fun (k : Nat) => xn S - k) 0 ⟨lv_sub hl [0, 1] rfl, (by omega), rfl⟩ ?_
  intro k ls hI ih2
  obtain ⟨hl, hk, hq⟩ := hI
  have hl : lv_has ls 4 [(1, .int (nI k)), (0, .ref (q 0))] := hl
  refine lv_iload_n hx hb dX0_dropBlocked_2 rfl (lv_at hl 0 rfl) ?_
  refine lv_aload_n hx hb dX0_dropBlocked_3 rfl (lv_at hl 1 rfl) ?_
  refine va_get (v := .int (nI (xn S))) hx hb hts hinX0 hown hK hP 0 rfl rfl 4 (by decide) hf58 (fun _ h9 => h9) rfl dX0_dropBlocked_4 ?_
  refine lv_icmp_ge (tgt := 46) hx hb dX0_dropBlocked_7 (by decide) (fun hc7 => ?_) (fun hc7 => ?_)
  · have hge : xn S ≤ k := (nI_leI (by omega) (by omega)).mp hc7
    refine lv_iconst (v := 0) hx hb dX0_dropBlocked_46 (by decide) ?_
    have hpo : x_samT S S ∧ (0, vXL S, vXT S) = v_turn 3 (vXL S) (vXT S) := ⟨(x_same.rf S).T, by rw [vt_3n (by rw [show q_blk (vXL S) = q_up (fun c => q_bl (vXL S) (q_set (vXL S) c) != 0) (xn S - 0) 0 from by unfold q_blk; rw [cl_of_len]; rfl, hq, q_up_end hge])]⟩
    exact W.zret (v := 0) hx hb hr (by rfl) (fun t ht hW => ⟨⟨0, S, rfl, hpo, by rw [ht]; exact hP, va_K.moved hW.alike hK, hD⟩, hS.F ht⟩) hS.2.2 dX0_dropBlocked_47
  · have hlt : k < xn S := Nat.lt_of_not_le (fun z => hc7 ((nI_leI (by omega) (by omega)).mpr z))
    have hs : q_set (vXL S) k = xse S k := q_set_of hlt
    refine lv_aload_n hx hb dX0_dropBlocked_10 rfl (lv_at hl 1 rfl) ?_
    refine va_get (v := .ref (q 1)) hx hb hts hinX0 hown hK hP 0 rfl rfl 2 (by decide) hf9 (fun _ h9 => h9) rfl dX0_dropBlocked_11 ?_
    refine lv_iload_n hx hb dX0_dropBlocked_14 rfl (lv_at hl 0 rfl) ?_
    refine xa_ld hx hb hK hP 1 0 rfl rfl k (by omega) (by first | decide | assumption) dX0_dropBlocked_15 ?_
    refine lv_istore_n (lv' := [(2, .int ((xse S) k)), (1, .int (nI k)), (0, .ref (q 0))]) hx hb dX0_dropBlocked_16 rfl hl (by decide) rfl (fun ls hl => ?_)
    refine lv_aload_n hx hb dX0_dropBlocked_17 rfl (lv_at hl 2 rfl) ?_
    refine lv_iload_n hx hb dX0_dropBlocked_18 rfl (lv_at hl 0 rfl) ?_
    refine xc_rv (As := [.int ((xse S) k)]) (rest := []) ⟨hx, hb, hml, hown, hts⟩ (kX0_blockedLiteral l D q cA S hok ((xse S) k)) (cwV 1 hts (gd_V bw_188 bw_189 bw_428 bw_1 bw_190) rfl rfl rfl (by decide +kernel) ⟨Nat.le_of_ble_eq_true rfl, Nat.le_of_ble_eq_true rfl⟩) (va_recv (ci := 0) (q0 := 0) hK hP rfl rfl) hP hK rfl hl.1 rfl (Nat.le_of_ble_eq_true rfl) dX0_dropBlocked_19 ⟨Nat.zero_le _, Nat.zero_le _⟩ ?_
    refine lv_istore_n (lv' := [(3, .int (q_bl (vXL S) ((xse S) k))), (2, .int ((xse S) k)), (1, .int (nI k)), (0, .ref (q 0))]) hx hb dX0_dropBlocked_22 rfl hl (by decide) rfl (fun ls hl => ?_)
    refine lv_iload_n hx hb dX0_dropBlocked_23 rfl (lv_at hl 0 rfl) ?_
    refine lv_if_eq (tgt := 40) hx hb dX0_dropBlocked_24 (by decide) (fun hc24 => ?_) (fun hc24 => ?_)
    · refine lv_iinc (k := 2) (v := nI (k + 1)) (lv' := [(1, .int (nI (k + 1))), (3, .int (q_bl (vXL S) ((xse S) k))), (2, .int ((xse S) k)), (0, .ref (q 0))]) hx hb dX0_dropBlocked_40 hl rfl (ii_1 _) (by decide) rfl (fun ls hl => ?_)
      refine lv_goto (tgt := 2) hx hb dX0_dropBlocked_43 (by decide) ?_
      exact ih2 (k + 1) _ ⟨lv_sub hl [0, 3] rfl, (by omega), hq.trans (q_up_f hlt (by simp [hc24, hs]))⟩ (by omega)
    · have hun : q_blk (vXL S) = some k := by rw [show q_blk (vXL S) = q_up (fun c => q_bl (vXL S) (q_set (vXL S) c) != 0) (xn S - 0) 0 from by unfold q_blk; rw [cl_of_len]; rfl, hq, q_up_t hlt (by simp [hs, hc24])]
      have hr9 : xh S < 200 := hroom (by rw [hun]; exact Option.some_ne_none _)
      refine lv_aload_n hx hb dX0_dropBlocked_27 rfl (lv_at hl 3 rfl) ?_
      refine lv_iload_n hx hb dX0_dropBlocked_28 rfl (lv_at hl 1 rfl) ?_
      refine lv_iload_n hx hb dX0_dropBlocked_29 rfl (lv_at hl 0 rfl) ?_
      refine xc_wv (As := [.int ((xse S) k), .int (q_bl (vXL S) ((xse S) k))]) (rest := []) ⟨hx, hb, hml, hown, hts⟩ (kX0_push l D q cA S hok ((xse S) k) (q_bl (vXL S) ((xse S) k)) hr9 _) (cwV 2 hts (gd_V bw_149 bw_150 bw_418 bw_1 bw_151) rfl rfl rfl (by decide +kernel) ⟨Nat.le_of_ble_eq_true rfl, Nat.le_of_ble_eq_true rfl⟩) (va_recv (ci := 0) (q0 := 0) hK hP rfl rfl) hP hK hD hS hA rfl hl.1 rfl (Nat.le_of_ble_eq_true rfl) dX0_dropBlocked_30 ⟨Nat.zero_le _, Nat.zero_le _⟩ (fun u1 H locs hu1 hP hD hS => ?_)
      have hok1 : okX u1 := by rw [hu1]; exact ⟨hn40, (show xh S + 1 ≤ 200 by omega), hg100⟩
      refine lv_aload_n hx hb dX0_dropBlocked_33 rfl (lv_at hl 3 rfl) ?_
      refine lv_iload_n hx hb dX0_dropBlocked_34 rfl (lv_at hl 2 rfl) ?_
      refine xc_wv (As := [.int (nI k)]) (rest := []) ⟨hx, hb, hml, hown, hts⟩ (kX0_remove l D q cA u1 hok1 k (by rw [hu1]; exact hlt) _) (cwV 1 hts (gd_V bw_170 bw_171 bw_423 bw_1 bw_172) rfl rfl rfl (by decide +kernel) ⟨Nat.le_of_ble_eq_true rfl, Nat.le_of_ble_eq_true rfl⟩) (va_recv (ci := 0) (q0 := 0) hK hP rfl rfl) hP hK hD hS hA rfl hl.1 rfl (Nat.le_of_ble_eq_true rfl) dX0_dropBlocked_35 ⟨Nat.zero_le _, Nat.zero_le _⟩ (fun u3 H locs hu3 hP hD hS => ?_)
      refine lv_iconst (v := 1) hx hb dX0_dropBlocked_38 (by decide) ?_
      have hpo : x_samT S u3 ∧ (1, vXL u3, vXT u3) = v_turn 3 (vXL S) (vXT S) := ⟨by rw [hu3, hu1]; rfl, by
        rw [vt_3s hun (by rw [vXT_len]; exact hr9), hs, hu3, hu1]
        exact congrArg (Prod.mk (1 : Int32)) (by rw [← mk_cl, ← rmv_cl hlt (xse S) (xnu S)])⟩
      exact W.zret (v := 1) hx hb hr (by rfl) (fun t ht hW => ⟨⟨1, u3, rfl, hpo, by rw [ht]; exact hP, va_K.moved hW.alike hK, hD⟩, hS.F ht⟩) hS.2.2 dX0_dropBlocked_39

set_option maxHeartbeats 4000000 in
set_option maxRecDepth 100000 in
theorem kX0_doOnce_0 (l : Launch) (D : va_G) (q : Nat → Nat) (cA : ClassId) (S : XS) (hok : okX S) (hroom : (v_turn 0 (vXL S) (vXT S)).1 ≠ -1) (sz : Nat) : xw_Mi l yX0_doOnce wsX0_doOnce ({ frames := 4, cells := 0, slots := 0, locals := 92 }) D vwCl [(cA, .int)] [.ref (q 0), .int 0] (wX q cA S) sz (fun (r : Int32) (u : XS) => x_samT S u ∧ (r, vXL u, vXT u) = v_turn 0 (vXL S) (vXT S)) (wX q cA) := by
  refine Met.ofW (cc := cX0_doOnce) (maxL := 2) (ret := (some .boolean)) (by decide) rfl ?_
  intro p e s m args below meth c s₁ B hml hv
  obtain ⟨rfl, hsz, hP, hK, hD0⟩ := hv
  subst hsz
  have hD := hD0.self (sz := s.heap.size)
  have hA : ∀ z, s.heap.size ≤ z → va_A (wX q cA S) s.heap.size z := fun z h => Or.inr h
  have hS : va_S (va_A (wX q cA S) s.heap.size) s.heap s.heap [] := va_S.rf
  obtain ⟨hn40, hh200, hg100⟩ := id hok
  have hx := B.exec
  have hb := B.bytes
  have hr := B.returns
  have hts := atoms_spec (ws := wsX0_doOnce) B.pre
  have hown : s.vm.findClass RX0 = some m.cls := findClass_of_methodNamed B.named
  have hlocks := B.notSynchronized
  have hl := lv_entry ([.ref (q 0), .int 0]) (n := 2) (Nat.le_of_ble_eq_true rfl)
  rw [lg_entry_eq]
  generalize (lg_sl ([.ref (q 0), .int 0]) ++ List.replicate (2 - (lg_sl ([.ref (q 0), .int 0])).length) Slot.unset).toArray = ls at hl ⊢
  have hl : lv_has ls 2 [(0, .ref (q 0)), (1, .int 0)] := hl
  refine lv_iload_n hx hb dX0_doOnce_0 rfl (lv_at hl 1 rfl) ?_
  refine lv_tableIn (off := 27) (tgt := 28) hx hb dX0_doOnce_1 (by decide) (by decide) (by decide) (by decide) ?_
  refine lv_aload_n hx hb dX0_doOnce_28 rfl (lv_at hl 0 rfl) ?_
  refine xc_wi (As := []) (rest := []) ⟨hx, hb, hml, hown, hts⟩ (kX0_propagateUnit l D q cA S hok (fun z => by rw [← vXT_len]; exact vr_0 hroom z) _) (cwV 0 hts (gd_V bw_143 bw_144 bw_417 bw_1 bw_145) rfl rfl rfl (by decide +kernel) ⟨Nat.le_of_ble_eq_true rfl, Nat.le_of_ble_eq_true rfl⟩) (va_recv (ci := 0) (q0 := 0) hK hP rfl rfl) hP hK hD hS hA rfl hl.1 rfl (Nat.le_of_ble_eq_true rfl) dX0_doOnce_29 ⟨Nat.zero_le _, Nat.zero_le _⟩ (fun r2 u1 H locs hu1 hP hD hS => ?_)
  have h9 : (r2, vXL u1, vXT u1) = v_turn 0 (vXL S) (vXT S) := hu1.2
  have hpo : x_samT S u1 ∧ (r2, vXL u1, vXT u1) = v_turn 0 (vXL S) (vXT S) := ⟨hu1.1, h9⟩
  exact W.zret (v := r2) hx hb hr (r01 h9 (vt_all 0 (vXL S) (vXT S)).1 hroom) (fun t ht hW => ⟨⟨r2, u1, rfl, hpo, by rw [ht]; exact hP, va_K.moved hW.alike hK, hD⟩, hS.F ht⟩) hS.2.2 dX0_doOnce_32

set_option maxHeartbeats 4000000 in
set_option maxRecDepth 100000 in
theorem kX0_doOnce_1 (l : Launch) (D : va_G) (q : Nat → Nat) (cA : ClassId) (S : XS) (hok : okX S) (hroom : (v_turn 1 (vXL S) (vXT S)).1 ≠ -1) (sz : Nat) : xw_Mi l yX0_doOnce wsX0_doOnce ({ frames := 2, cells := 0, slots := 0, locals := 43 }) D vwCl [(cA, .int)] [.ref (q 0), .int 1] (wX q cA S) sz (fun (r : Int32) (u : XS) => x_samT S u ∧ (r, vXL u, vXT u) = v_turn 1 (vXL S) (vXT S)) (wX q cA) := by
  refine Met.ofW (cc := cX0_doOnce) (maxL := 2) (ret := (some .boolean)) (by decide) rfl ?_
  intro p e s m args below meth c s₁ B hml hv
  obtain ⟨rfl, hsz, hP, hK, hD0⟩ := hv
  subst hsz
  have hD := hD0.self (sz := s.heap.size)
  have hA : ∀ z, s.heap.size ≤ z → va_A (wX q cA S) s.heap.size z := fun z h => Or.inr h
  have hS : va_S (va_A (wX q cA S) s.heap.size) s.heap s.heap [] := va_S.rf
  obtain ⟨hn40, hh200, hg100⟩ := id hok
  have hx := B.exec
  have hb := B.bytes
  have hr := B.returns
  have hts := atoms_spec (ws := wsX0_doOnce) B.pre
  have hown : s.vm.findClass RX0 = some m.cls := findClass_of_methodNamed B.named
  have hlocks := B.notSynchronized
  have hl := lv_entry ([.ref (q 0), .int 1]) (n := 2) (Nat.le_of_ble_eq_true rfl)
  rw [lg_entry_eq]
  generalize (lg_sl ([.ref (q 0), .int 1]) ++ List.replicate (2 - (lg_sl ([.ref (q 0), .int 1])).length) Slot.unset).toArray = ls at hl ⊢
  have hl : lv_has ls 2 [(0, .ref (q 0)), (1, .int 1)] := hl
  refine lv_iload_n hx hb dX0_doOnce_0 rfl (lv_at hl 1 rfl) ?_
  refine lv_tableIn (off := 32) (tgt := 33) hx hb dX0_doOnce_1 (by decide) (by decide) (by decide) (by decide) ?_
  refine lv_aload_n hx hb dX0_doOnce_33 rfl (lv_at hl 0 rfl) ?_
  refine xc_wi (As := []) (rest := []) ⟨hx, hb, hml, hown, hts⟩ (kX0_dropSubsumed l D q cA S hok  _) (cwV 0 hts (gd_V bw_173 bw_174 bw_424 bw_1 bw_175) rfl rfl rfl (by decide +kernel) ⟨Nat.le_of_ble_eq_true rfl, Nat.le_of_ble_eq_true rfl⟩) (va_recv (ci := 0) (q0 := 0) hK hP rfl rfl) hP hK hD hS hA rfl hl.1 rfl (Nat.le_of_ble_eq_true rfl) dX0_doOnce_34 ⟨Nat.zero_le _, Nat.zero_le _⟩ (fun r2 u1 H locs hu1 hP hD hS => ?_)
  have h9 : (r2, vXL u1, vXT u1) = v_turn 1 (vXL S) (vXT S) := by rw [hu1.1.TT]; exact vt_d1 hu1.2
  have hpo : x_samT S u1 ∧ (r2, vXL u1, vXT u1) = v_turn 1 (vXL S) (vXT S) := ⟨hu1.1.T, h9⟩
  exact W.zret (v := r2) hx hb hr (r01 h9 (vt_all 1 (vXL S) (vXT S)).1 hroom) (fun t ht hW => ⟨⟨r2, u1, rfl, hpo, by rw [ht]; exact hP, va_K.moved hW.alike hK, hD⟩, hS.F ht⟩) hS.2.2 dX0_doOnce_37

set_option maxHeartbeats 4000000 in
set_option maxRecDepth 100000 in
theorem kX0_doOnce_2 (l : Launch) (D : va_G) (q : Nat → Nat) (cA : ClassId) (S : XS) (hok : okX S) (hroom : (v_turn 2 (vXL S) (vXT S)).1 ≠ -1) (sz : Nat) : xw_Mi l yX0_doOnce wsX0_doOnce ({ frames := 4, cells := 0, slots := 0, locals := 85 }) D vwCl [(cA, .int)] [.ref (q 0), .int 2] (wX q cA S) sz (fun (r : Int32) (u : XS) => x_samT S u ∧ (r, vXL u, vXT u) = v_turn 2 (vXL S) (vXT S)) (wX q cA) := by
  refine Met.ofW (cc := cX0_doOnce) (maxL := 2) (ret := (some .boolean)) (by decide) rfl ?_
  intro p e s m args below meth c s₁ B hml hv
  obtain ⟨rfl, hsz, hP, hK, hD0⟩ := hv
  subst hsz
  have hD := hD0.self (sz := s.heap.size)
  have hA : ∀ z, s.heap.size ≤ z → va_A (wX q cA S) s.heap.size z := fun z h => Or.inr h
  have hS : va_S (va_A (wX q cA S) s.heap.size) s.heap s.heap [] := va_S.rf
  obtain ⟨hn40, hh200, hg100⟩ := id hok
  have hx := B.exec
  have hb := B.bytes
  have hr := B.returns
  have hts := atoms_spec (ws := wsX0_doOnce) B.pre
  have hown : s.vm.findClass RX0 = some m.cls := findClass_of_methodNamed B.named
  have hlocks := B.notSynchronized
  have hl := lv_entry ([.ref (q 0), .int 2]) (n := 2) (Nat.le_of_ble_eq_true rfl)
  rw [lg_entry_eq]
  generalize (lg_sl ([.ref (q 0), .int 2]) ++ List.replicate (2 - (lg_sl ([.ref (q 0), .int 2])).length) Slot.unset).toArray = ls at hl ⊢
  have hl : lv_has ls 2 [(0, .ref (q 0)), (1, .int 2)] := hl
  refine lv_iload_n hx hb dX0_doOnce_0 rfl (lv_at hl 1 rfl) ?_
  refine lv_tableIn (off := 37) (tgt := 38) hx hb dX0_doOnce_1 (by decide) (by decide) (by decide) (by decide) ?_
  refine lv_aload_n hx hb dX0_doOnce_38 rfl (lv_at hl 0 rfl) ?_
  refine xc_wi (As := []) (rest := []) ⟨hx, hb, hml, hown, hts⟩ (kX0_strengthen l D q cA S hok  _) (cwV 0 hts (gd_V bw_179 bw_180 bw_426 bw_1 bw_181) rfl rfl rfl (by decide +kernel) ⟨Nat.le_of_ble_eq_true rfl, Nat.le_of_ble_eq_true rfl⟩) (va_recv (ci := 0) (q0 := 0) hK hP rfl rfl) hP hK hD hS hA rfl hl.1 rfl (Nat.le_of_ble_eq_true rfl) dX0_doOnce_39 ⟨Nat.zero_le _, Nat.zero_le _⟩ (fun r2 u1 H locs hu1 hP hD hS => ?_)
  have h9 : (r2, vXL u1, vXT u1) = v_turn 2 (vXL S) (vXT S) := by rw [hu1.1.TT]; exact vt_d2 hu1.2
  have hpo : x_samT S u1 ∧ (r2, vXL u1, vXT u1) = v_turn 2 (vXL S) (vXT S) := ⟨hu1.1.T, h9⟩
  exact W.zret (v := r2) hx hb hr (r01 h9 (vt_all 2 (vXL S) (vXT S)).1 hroom) (fun t ht hW => ⟨⟨r2, u1, rfl, hpo, by rw [ht]; exact hP, va_K.moved hW.alike hK, hD⟩, hS.F ht⟩) hS.2.2 dX0_doOnce_42

set_option maxHeartbeats 4000000 in
set_option maxRecDepth 100000 in
theorem kX0_doOnce_3 (l : Launch) (D : va_G) (q : Nat → Nat) (cA : ClassId) (S : XS) (hok : okX S) (hroom : (v_turn 3 (vXL S) (vXT S)).1 ≠ -1) (sz : Nat) : xw_Mi l yX0_doOnce wsX0_doOnce ({ frames := 4, cells := 0, slots := 0, locals := 92 }) D vwCl [(cA, .int)] [.ref (q 0), .int 3] (wX q cA S) sz (fun (r : Int32) (u : XS) => x_samT S u ∧ (r, vXL u, vXT u) = v_turn 3 (vXL S) (vXT S)) (wX q cA) := by
  refine Met.ofW (cc := cX0_doOnce) (maxL := 2) (ret := (some .boolean)) (by decide) rfl ?_
  intro p e s m args below meth c s₁ B hml hv
  obtain ⟨rfl, hsz, hP, hK, hD0⟩ := hv
  subst hsz
  have hD := hD0.self (sz := s.heap.size)
  have hA : ∀ z, s.heap.size ≤ z → va_A (wX q cA S) s.heap.size z := fun z h => Or.inr h
  have hS : va_S (va_A (wX q cA S) s.heap.size) s.heap s.heap [] := va_S.rf
  obtain ⟨hn40, hh200, hg100⟩ := id hok
  have hx := B.exec
  have hb := B.bytes
  have hr := B.returns
  have hts := atoms_spec (ws := wsX0_doOnce) B.pre
  have hown : s.vm.findClass RX0 = some m.cls := findClass_of_methodNamed B.named
  have hlocks := B.notSynchronized
  have hl := lv_entry ([.ref (q 0), .int 3]) (n := 2) (Nat.le_of_ble_eq_true rfl)
  rw [lg_entry_eq]
  generalize (lg_sl ([.ref (q 0), .int 3]) ++ List.replicate (2 - (lg_sl ([.ref (q 0), .int 3])).length) Slot.unset).toArray = ls at hl ⊢
  have hl : lv_has ls 2 [(0, .ref (q 0)), (1, .int 3)] := hl
  refine lv_iload_n hx hb dX0_doOnce_0 rfl (lv_at hl 1 rfl) ?_
  refine lv_tableOut (tgt := 43) hx hb dX0_doOnce_1 (by decide) (by decide) ?_
  refine lv_aload_n hx hb dX0_doOnce_43 rfl (lv_at hl 0 rfl) ?_
  refine xc_wi (As := []) (rest := []) ⟨hx, hb, hml, hown, hts⟩ (kX0_dropBlocked l D q cA S hok (fun z => by rw [← vXT_len]; exact vr_3 hroom z) _) (cwV 0 hts (gd_V bw_185 bw_186 bw_427 bw_1 bw_187) rfl rfl rfl (by decide +kernel) ⟨Nat.le_of_ble_eq_true rfl, Nat.le_of_ble_eq_true rfl⟩) (va_recv (ci := 0) (q0 := 0) hK hP rfl rfl) hP hK hD hS hA rfl hl.1 rfl (Nat.le_of_ble_eq_true rfl) dX0_doOnce_44 ⟨Nat.zero_le _, Nat.zero_le _⟩ (fun r2 u1 H locs hu1 hP hD hS => ?_)
  have h9 : (r2, vXL u1, vXT u1) = v_turn 3 (vXL S) (vXT S) := hu1.2
  have hpo : x_samT S u1 ∧ (r2, vXL u1, vXT u1) = v_turn 3 (vXL S) (vXT S) := ⟨hu1.1, h9⟩
  exact W.zret (v := r2) hx hb hr (r01 h9 (vt_all 3 (vXL S) (vXT S)).1 hroom) (fun t ht hW => ⟨⟨r2, u1, rfl, hpo, by rw [ht]; exact hP, va_K.moved hW.alike hK, hD⟩, hS.F ht⟩) hS.2.2 dX0_doOnce_47
