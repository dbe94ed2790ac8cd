/-! The class: what throws. -/
set_option maxRecDepth 100000 in
theorem xi36 : ∀ w ∈ (vx_atS RX0 36 "java/lang/IllegalArgumentException" xNm).filter goodWord, w ∈ BW := by decide +kernel
set_option maxRecDepth 100000 in
theorem xj36 : ∀ w ∈ (vx_atS RX0 36 "java/lang/IllegalArgumentException" xNm).filter (fun w => !goodWord w), w ∈ xNg "java/lang/IllegalArgumentException" := by decide +kernel

set_option maxRecDepth 100000 in
theorem xi65 : ∀ w ∈ (vx_atS RX0 65 "java/lang/IllegalStateException" xNm).filter goodWord, w ∈ BW := by decide +kernel
set_option maxRecDepth 100000 in
theorem xj65 : ∀ w ∈ (vx_atS RX0 65 "java/lang/IllegalStateException" xNm).filter (fun w => !goodWord w), w ∈ xNg "java/lang/IllegalStateException" := by decide +kernel

set_option maxRecDepth 100000 in
theorem xi178 : ∀ w ∈ (vx_atS RX0 178 "java/lang/IndexOutOfBoundsException" xNm).filter goodWord, w ∈ BW := by decide +kernel
set_option maxRecDepth 100000 in
theorem xj178 : ∀ w ∈ (vx_atS RX0 178 "java/lang/IndexOutOfBoundsException" xNm).filter (fun w => !goodWord w), w ∈ xNg "java/lang/IndexOutOfBoundsException" := by decide +kernel

set_option maxHeartbeats 4000000 in
set_option maxRecDepth 100000 in
theorem kX0_push_t (l : Launch) (D : va_G) (q : Nat → Nat) (cA : ClassId) (S : XS) (hok : okX S) (hl9 : l.stackTraces = false) (x y : Int32) (hfull : ¬ xh S < 200) (sz : Nat) : xt_M l yX0_push wsX0_push ({ frames := 6, cells := 1, slots := 6, locals := 82 }) D vwCl [(cA, .int)] [.ref (q 0), .int x, .int y] (wX q cA S) sz "java/lang/IllegalStateException" (fun u : XS => u = S) (wX q cA) := by
  refine vx_ofW (cc := cX0_push) (maxL := 3) (ret := none) (by decide) rfl ?_
  intro p e s m args below meth c s₁ B hml hnt hv
  obtain ⟨rfl, ⟨hsz, hP, hK, hD0⟩, hX⟩ := hv
  subst hsz
  have hD := hD0.self (sz := s.heap.size)
  have hA : ∀ z, s.heap.size ≤ z → va_A (wX q cA S) s.heap.size z := fun z h => Or.inr h
  have hS : va_S (va_A (wX q cA S) s.heap.size) s.heap s.heap [] := va_S.rf
  obtain ⟨hn40, hh200, hg100⟩ := id hok
  have hx := B.exec
  have hb := B.bytes
  have hr := B.returns
  have hts := atoms_spec (ws := wsX0_push) B.pre
  have hown : s.vm.findClass RX0 = some m.cls := findClass_of_methodNamed B.named
  have hlocks := B.notSynchronized
  have hinX0 : ∀ w ∈ u_ws RX0 TX0 12, w ∈ wsX0_push := fun w h => List.mem_cons_of_mem _ (bw_X0 w h)
  have hf149 := hts _ (List.mem_cons_of_mem _ bw_27)
  have hl := lv_entry ([.ref (q 0), .int x, .int y]) (n := 3) (Nat.le_of_ble_eq_true rfl)
  rw [lg_entry_eq]
  generalize (lg_sl ([.ref (q 0), .int x, .int y]) ++ List.replicate (3 - (lg_sl ([.ref (q 0), .int x, .int y])).length) Slot.unset).toArray = ls at hl ⊢
  have hl : lv_has ls 3 [(0, .ref (q 0)), (1, .int x), (2, .int y)] := hl
  refine lv_aload_n hx hb dX0_push_0 rfl (lv_at hl 0 rfl) ?_
  refine va_get (v := .int (nI (xh S))) hx hb hts hinX0 hown hK hP 0 rfl rfl 8 (by decide) hf149 (fun _ h9 => h9) rfl dX0_push_1 ?_
  refine lv_sipush (v := 200) hx hb dX0_push_4 (by decide) ?_
  refine lv_icmp_lt (tgt := 20) hx hb dX0_push_7 (by decide) (fun hc7 => ?_) (fun hc7 => ?_)
  · exact absurd ((nI_ltI (b := 200) (by omega) (by decide)).mp hc7) hfull
  · have hpo : S = S := rfl
    exact xt_thr (E := "java/lang/IllegalStateException") (text := "200 entries are there") hl9 hX (by decide) (by decide) (by decide) xi65 xj65 bw_125 bw_8 hx hb hml hts hown hlocks hnt hl.1 hK hS S hP hD hpo dX0_push_10 dX0_push_13 dX0_push_14 dX0_push_16 dX0_push_19 (Nat.le_of_ble_eq_true rfl) (Nat.le_of_ble_eq_true rfl) (Nat.le_of_ble_eq_true rfl) (Nat.le_of_ble_eq_true rfl)

set_option maxHeartbeats 4000000 in
set_option maxRecDepth 100000 in
theorem kX0_propagateUnit_t (l : Launch) (D : va_G) (q : Nat → Nat) (cA : ClassId) (S : XS) (hok : okX S) (hl9 : l.stackTraces = false) (hu9 : p_unit (vXL S) ≠ none) (hfull : ¬ xh S < 200) (sz : Nat) : xt_M l yX0_propagateUnit wsX0_propagateUnit ({ frames := 7, cells := 1, slots := 6, locals := 104 }) D vwCl [(cA, .int)] [.ref (q 0)] (wX q cA S) sz "java/lang/IllegalStateException" (fun u : XS => u = S) (wX q cA) := by
  refine vx_ofW (cc := cX0_propagateUnit) (maxL := 3) (ret := (some .boolean)) (by decide) rfl ?_
  intro p e s m args below meth c s₁ B hml hnt hv
  obtain ⟨rfl, ⟨hsz, hP, hK, hD0⟩, hX⟩ := hv
  subst hsz
  have hD := hD0.self (sz := s.heap.size)
  have hA : ∀ z, s.heap.size ≤ z → va_A (wX q cA S) s.heap.size z := fun z h => Or.inr h
  have hS : va_S (va_A (wX q cA S) s.heap.size) s.heap s.heap [] := va_S.rf
  obtain ⟨hn40, hh200, hg100⟩ := id hok
  have hx := B.exec
  have hb := B.bytes
  have hr := B.returns
  have hts := atoms_spec (ws := wsX0_propagateUnit) B.pre
  have hown : s.vm.findClass RX0 = some m.cls := findClass_of_methodNamed B.named
  have hlocks := B.notSynchronized
  have hinX0 : ∀ w ∈ u_ws RX0 TX0 12, w ∈ wsX0_propagateUnit := fun w h => List.mem_cons_of_mem _ (bw_X0 w h)
  have hf9 := hts _ (List.mem_cons_of_mem _ bw_21)
  have hf58 := hts _ (List.mem_cons_of_mem _ bw_23)
  have hl := lv_entry ([.ref (q 0)]) (n := 3) (Nat.le_of_ble_eq_true rfl)
  rw [lg_entry_eq]
  generalize (lg_sl ([.ref (q 0)]) ++ List.replicate (3 - (lg_sl ([.ref (q 0)])).length) Slot.unset).toArray = ls at hl ⊢
  have hl : lv_has ls 3 [(0, .ref (q 0))] := hl
  refine lv_iconst (v := 0) hx hb dX0_propagateUnit_0 (by decide) ?_
  refine lv_istore_n (lv' := [(1, .int 0), (0, .ref (q 0))]) hx hb dX0_propagateUnit_1 rfl hl (by decide) rfl (fun ls hl => ?_)
  refine wlr (σ := Nat) (fun (k : Nat) ls => lv_has ls 3 [(1, .int (nI k)), (0, .ref (q 0))] ∧ k ≤ xn S ∧ q_up (fun k => k_sing (q_set (vXL S) k)) (xn S - 0) 0 = q_up (fun k => k_sing (q_set (vXL S) k)) (xn S - k) k) (fun (k : Nat) => xn S - k) 0 ⟨lv_sub hl [0, 1] rfl, (by omega), rfl⟩ ?_
  intro k ls hI ih2
  obtain ⟨hl, hk, hq⟩ := hI
  have hl : lv_has ls 3 [(1, .int (nI k)), (0, .ref (q 0))] := hl
  refine lv_iload_n hx hb dX0_propagateUnit_2 rfl (lv_at hl 0 rfl) ?_
  refine lv_aload_n hx hb dX0_propagateUnit_3 rfl (lv_at hl 1 rfl) ?_
  refine va_get (v := .int (nI (xn S))) hx hb hts hinX0 hown hK hP 0 rfl rfl 4 (by decide) hf58 (fun _ h9 => h9) rfl dX0_propagateUnit_4 ?_
  refine lv_icmp_ge (tgt := 51) hx hb dX0_propagateUnit_7 (by decide) (fun hc7 => ?_) (fun hc7 => ?_)
  · exact absurd (show p_unit (vXL S) = none by rw [show p_unit (vXL S) = q_up (fun k => k_sing (q_set (vXL S) k)) (xn S - 0) 0 from by unfold p_unit; rw [cl_of_len]; rfl, hq, q_up_end ((nI_leI (by omega) (by omega)).mp hc7)]) hu9
  · have hlt : k < xn S := Nat.lt_of_not_le (fun z => hc7 ((nI_leI (by omega) (by omega)).mpr z))
    have hs : q_set (vXL S) k = xse S k := q_set_of hlt
    refine lv_aload_n hx hb dX0_propagateUnit_10 rfl (lv_at hl 1 rfl) ?_
    refine va_get (v := .ref (q 1)) hx hb hts hinX0 hown hK hP 0 rfl rfl 2 (by decide) hf9 (fun _ h9 => h9) rfl dX0_propagateUnit_11 ?_
    refine lv_iload_n hx hb dX0_propagateUnit_14 rfl (lv_at hl 0 rfl) ?_
    refine xa_ld hx hb hK hP 1 0 rfl rfl k (by omega) (by first | decide | assumption) dX0_propagateUnit_15 ?_
    refine lv_istore_n (lv' := [(2, .int ((xse S) k)), (1, .int (nI k)), (0, .ref (q 0))]) hx hb dX0_propagateUnit_16 rfl hl (by decide) rfl (fun ls hl => ?_)
    refine lv_iload_n hx hb dX0_propagateUnit_17 rfl (lv_at hl 0 rfl) ?_
    refine xc_s (As := [.int ((xse S) k)]) (rest := []) ⟨hx, hb, hml, hown, hts⟩ (kX0_isSingle l ((xse S) k)) (va_cwS 1 hts (gd_S bw_146 bw_147 bw_1 bw_148) rfl rfl rfl (by decide +kernel) ⟨Nat.le_of_ble_eq_true rfl, Nat.le_of_ble_eq_true rfl⟩) rfl hl.1 rfl (Nat.le_of_ble_eq_true rfl) dX0_propagateUnit_18 ⟨Nat.zero_le _, Nat.zero_le _⟩ ?_
    refine lv_if_eq (tgt := 45) hx hb dX0_propagateUnit_21 (by decide) (fun hc21 => ?_) (fun hc21 => ?_)
    · have hc21 := kb_0.mp hc21
      refine lv_iinc (k := 1) (v := nI (k + 1)) (lv' := [(1, .int (nI (k + 1))), (2, .int ((xse S) k)), (0, .ref (q 0))]) hx hb dX0_propagateUnit_45 hl rfl (ii_1 _) (by decide) rfl (fun ls hl => ?_)
      refine lv_goto (tgt := 2) hx hb dX0_propagateUnit_48 (by decide) ?_
      exact ih2 (k + 1) _ ⟨lv_sub hl [0, 2] rfl, (by omega), hq.trans (q_up_f hlt (by simp [hc21, hs]))⟩ (by omega)
    · refine lv_aload_n hx hb dX0_propagateUnit_24 rfl (lv_at hl 2 rfl) ?_
      refine lv_iload_n hx hb dX0_propagateUnit_25 rfl (lv_at hl 0 rfl) ?_
      refine lv_iload_n hx hb dX0_propagateUnit_26 rfl (lv_at hl 0 rfl) ?_
      exact xt_pass (As := [.int ((xse S) k), .int ((xse S) k)]) (rest := []) ⟨hx, hb, hml, hown, hts⟩ (kX0_push_t l D q cA S hok hl9 ((xse S) k) ((xse S) k) hfull _) (cwV 2 hts (gd_V bw_149 bw_150 bw_418 bw_1 bw_151) rfl rfl rfl (by decide +kernel) ⟨Nat.le_of_ble_eq_true rfl, Nat.le_of_ble_eq_true rfl⟩) (va_recv (ci := 0) (q0 := 0) hK hP rfl rfl) hX hP hK hD hS hA rfl hl.1 rfl (Nat.le_of_ble_eq_true rfl) dX0_propagateUnit_27 ⟨Nat.le_of_ble_eq_true rfl, Nat.le_of_ble_eq_true rfl⟩ hlocks hnt (fun u hu => hu)

set_option maxHeartbeats 4000000 in
set_option maxRecDepth 100000 in
theorem kX0_dropBlocked_t (l : Launch) (D : va_G) (q : Nat → Nat) (cA : ClassId) (S : XS) (hok : okX S) (hl9 : l.stackTraces = false) (hu9 : q_blk (vXL S) ≠ none) (hfull : ¬ xh S < 200) (sz : Nat) : xt_M l yX0_dropBlocked wsX0_dropBlocked ({ frames := 7, cells := 1, slots := 6, locals := 104 }) D vwCl [(cA, .int)] [.ref (q 0)] (wX q cA S) sz "java/lang/IllegalStateException" (fun u : XS => u = S) (wX q cA) := by
  refine vx_ofW (cc := cX0_dropBlocked) (maxL := 4) (ret := (some .boolean)) (by decide) rfl ?_
  intro p e s m args below meth c s₁ B hml hnt hv
  obtain ⟨rfl, ⟨hsz, hP, hK, hD0⟩, hX⟩ := hv
  subst hsz
  have hD := hD0.self (sz := s.heap.size)
  have hA : ∀ z, s.heap.size ≤ z → va_A (wX q cA S) s.heap.size z := fun z h => Or.inr h
  have hS : va_S (va_A (wX q cA S) s.heap.size) s.heap s.heap [] := va_S.rf
  obtain ⟨hn40, hh200, hg100⟩ := id hok
  have hx := B.exec
  have hb := B.bytes
  have hr := B.returns
  have hts := atoms_spec (ws := wsX0_dropBlocked) B.pre
  have hown : s.vm.findClass RX0 = some m.cls := findClass_of_methodNamed B.named
  have hlocks := B.notSynchronized
  have hinX0 : ∀ w ∈ u_ws RX0 TX0 12, w ∈ wsX0_dropBlocked := fun w h => List.mem_cons_of_mem _ (bw_X0 w h)
  have hf9 := hts _ (List.mem_cons_of_mem _ bw_21)
  have hf58 := hts _ (List.mem_cons_of_mem _ bw_23)
  have hl := lv_entry ([.ref (q 0)]) (n := 4) (Nat.le_of_ble_eq_true rfl)
  rw [lg_entry_eq]
  generalize (lg_sl ([.ref (q 0)]) ++ List.replicate (4 - (lg_sl ([.ref (q 0)])).length) Slot.unset).toArray = ls at hl ⊢
  have hl : lv_has ls 4 [(0, .ref (q 0))] := hl
  refine lv_iconst (v := 0) hx hb dX0_dropBlocked_0 (by decide) ?_
  refine lv_istore_n (lv' := [(1, .int 0), (0, .ref (q 0))]) hx hb dX0_dropBlocked_1 rfl hl (by decide) rfl (fun ls hl => ?_)
  refine wlr (σ := Nat) (fun (k : Nat) ls => lv_has ls 4 [(1, .int (nI k)), (0, .ref (q 0))] ∧ k ≤ xn S ∧ q_up (fun c => q_bl (vXL S) (q_set (vXL S) c) != 0) (xn S - 0) 0 = q_up (fun c => q_bl (vXL S) (q_set (vXL S) c) != 0) (xn S - k) k) (fun (k : Nat) => xn S - k) 0 ⟨lv_sub hl [0, 1] rfl, (by omega), rfl⟩ ?_
  intro k ls hI ih2
  obtain ⟨hl, hk, hq⟩ := hI
  have hl : lv_has ls 4 [(1, .int (nI k)), (0, .ref (q 0))] := hl
  refine lv_iload_n hx hb dX0_dropBlocked_2 rfl (lv_at hl 0 rfl) ?_
  refine lv_aload_n hx hb dX0_dropBlocked_3 rfl (lv_at hl 1 rfl) ?_
  refine va_get (v := .int (nI (xn S))) hx hb hts hinX0 hown hK hP 0 rfl rfl 4 (by decide) hf58 (fun _ h9 => h9) rfl dX0_dropBlocked_4 ?_
  refine lv_icmp_ge (tgt := 46) hx hb dX0_dropBlocked_7 (by decide) (fun hc7 => ?_) (fun hc7 => ?_)
  · exact absurd (show q_blk (vXL S) = none by rw [show q_blk (vXL S) = q_up (fun c => q_bl (vXL S) (q_set (vXL S) c) != 0) (xn S - 0) 0 from by unfold q_blk; rw [cl_of_len]; rfl, hq, q_up_end ((nI_leI (by omega) (by omega)).mp hc7)]) hu9
  · have hlt : k < xn S := Nat.lt_of_not_le (fun z => hc7 ((nI_leI (by omega) (by omega)).mpr z))
    have hs : q_set (vXL S) k = xse S k := q_set_of hlt
    refine lv_aload_n hx hb dX0_dropBlocked_10 rfl (lv_at hl 1 rfl) ?_
    refine va_get (v := .ref (q 1)) hx hb hts hinX0 hown hK hP 0 rfl rfl 2 (by decide) hf9 (fun _ h9 => h9) rfl dX0_dropBlocked_11 ?_
    refine lv_iload_n hx hb dX0_dropBlocked_14 rfl (lv_at hl 0 rfl) ?_
    refine xa_ld hx hb hK hP 1 0 rfl rfl k (by omega) (by first | decide | assumption) dX0_dropBlocked_15 ?_
    refine lv_istore_n (lv' := [(2, .int ((xse S) k)), (1, .int (nI k)), (0, .ref (q 0))]) hx hb dX0_dropBlocked_16 rfl hl (by decide) rfl (fun ls hl => ?_)
    refine lv_aload_n hx hb dX0_dropBlocked_17 rfl (lv_at hl 2 rfl) ?_
    refine lv_iload_n hx hb dX0_dropBlocked_18 rfl (lv_at hl 0 rfl) ?_
    refine xc_rv (As := [.int ((xse S) k)]) (rest := []) ⟨hx, hb, hml, hown, hts⟩ (kX0_blockedLiteral l D q cA S hok ((xse S) k)) (cwV 1 hts (gd_V bw_188 bw_189 bw_428 bw_1 bw_190) rfl rfl rfl (by decide +kernel) ⟨Nat.le_of_ble_eq_true rfl, Nat.le_of_ble_eq_true rfl⟩) (va_recv (ci := 0) (q0 := 0) hK hP rfl rfl) hP hK rfl hl.1 rfl (Nat.le_of_ble_eq_true rfl) dX0_dropBlocked_19 ⟨Nat.zero_le _, Nat.zero_le _⟩ ?_
    refine lv_istore_n (lv' := [(3, .int (q_bl (vXL S) ((xse S) k))), (2, .int ((xse S) k)), (1, .int (nI k)), (0, .ref (q 0))]) hx hb dX0_dropBlocked_22 rfl hl (by decide) rfl (fun ls hl => ?_)
    refine lv_iload_n hx hb dX0_dropBlocked_23 rfl (lv_at hl 0 rfl) ?_
    refine lv_if_eq (tgt := 40) hx hb dX0_dropBlocked_24 (by decide) (fun hc24 => ?_) (fun hc24 => ?_)
    · refine lv_iinc (k := 2) (v := nI (k + 1)) (lv' := [(1, .int (nI (k + 1))), (3, .int (q_bl (vXL S) ((xse S) k))), (2, .int ((xse S) k)), (0, .ref (q 0))]) hx hb dX0_dropBlocked_40 hl rfl (ii_1 _) (by decide) rfl (fun ls hl => ?_)
      refine lv_goto (tgt := 2) hx hb dX0_dropBlocked_43 (by decide) ?_
      exact ih2 (k + 1) _ ⟨lv_sub hl [0, 3] rfl, (by omega), hq.trans (q_up_f hlt (by simp [hc24, hs]))⟩ (by omega)
    · refine lv_aload_n hx hb dX0_dropBlocked_27 rfl (lv_at hl 3 rfl) ?_
      refine lv_iload_n hx hb dX0_dropBlocked_28 rfl (lv_at hl 1 rfl) ?_
      refine lv_iload_n hx hb dX0_dropBlocked_29 rfl (lv_at hl 0 rfl) ?_
      exact xt_pass (As := [.int ((xse S) k), .int (q_bl (vXL S) ((xse S) k))]) (rest := []) ⟨hx, hb, hml, hown, hts⟩ (kX0_push_t l D q cA S hok hl9 ((xse S) k) (q_bl (vXL S) ((xse S) k)) hfull _) (cwV 2 hts (gd_V bw_149 bw_150 bw_418 bw_1 bw_151) rfl rfl rfl (by decide +kernel) ⟨Nat.le_of_ble_eq_true rfl, Nat.le_of_ble_eq_true rfl⟩) (va_recv (ci := 0) (q0 := 0) hK hP rfl rfl) hX hP hK hD hS hA rfl hl.1 rfl (Nat.le_of_ble_eq_true rfl) dX0_dropBlocked_30 ⟨Nat.le_of_ble_eq_true rfl, Nat.le_of_ble_eq_true rfl⟩ hlocks hnt (fun u hu => hu)

set_option maxHeartbeats 4000000 in
set_option maxRecDepth 100000 in
theorem kX0_doOnce_t0 (l : Launch) (D : va_G) (q : Nat → Nat) (cA : ClassId) (S : XS) (hok : okX S) (hl9 : l.stackTraces = false) (hm1 : (v_turn 0 (vXL S) (vXT S)).1 = -1) (sz : Nat) : xt_M l yX0_doOnce wsX0_doOnce ({ frames := 8, cells := 1, slots := 6, locals := 126 }) D vwCl [(cA, .int)] [.ref (q 0), .int 0] (wX q cA S) sz "java/lang/IllegalStateException" (fun u : XS => u = S) (wX q cA) := by
  refine vx_ofW (cc := cX0_doOnce) (maxL := 2) (ret := (some .boolean)) (by decide) rfl ?_
  intro p e s m args below meth c s₁ B hml hnt hv
  obtain ⟨rfl, ⟨hsz, hP, hK, hD0⟩, hX⟩ := hv
  subst hsz
  have hD := hD0.self (sz := s.heap.size)
  have hA : ∀ z, s.heap.size ≤ z → va_A (wX q cA S) s.heap.size z := fun z h => Or.inr h
  have hS : va_S (va_A (wX q cA S) s.heap.size) s.heap s.heap [] := va_S.rf
  obtain ⟨hn40, hh200, hg100⟩ := id hok
  have hx := B.exec
  have hb := B.bytes
  have hr := B.returns
  have hts := atoms_spec (ws := wsX0_doOnce) B.pre
  have hown : s.vm.findClass RX0 = some m.cls := findClass_of_methodNamed B.named
  have hlocks := B.notSynchronized
  have hl := lv_entry ([.ref (q 0), .int 0]) (n := 2) (Nat.le_of_ble_eq_true rfl)
  rw [lg_entry_eq]
  generalize (lg_sl ([.ref (q 0), .int 0]) ++ List.replicate (2 - (lg_sl ([.ref (q 0), .int 0])).length) Slot.unset).toArray = ls at hl ⊢
  have hl : lv_has ls 2 [(0, .ref (q 0)), (1, .int 0)] := hl
  refine lv_iload_n hx hb dX0_doOnce_0 rfl (lv_at hl 1 rfl) ?_
  refine lv_tableIn (off := 27) (tgt := 28) hx hb dX0_doOnce_1 (by decide) (by decide) (by decide) (by decide) ?_
  refine lv_aload_n hx hb dX0_doOnce_28 rfl (lv_at hl 0 rfl) ?_
  exact xt_pass (As := []) (rest := []) ⟨hx, hb, hml, hown, hts⟩ (kX0_propagateUnit_t l D q cA S hok hl9 (vf_0 hm1).1 (by rw [← vXT_len]; exact (vf_0 hm1).2) _) (cwV 0 hts (gd_V bw_143 bw_144 bw_417 bw_1 bw_145) rfl rfl rfl (by decide +kernel) ⟨Nat.le_of_ble_eq_true rfl, Nat.le_of_ble_eq_true rfl⟩) (va_recv (ci := 0) (q0 := 0) hK hP rfl rfl) hX hP hK hD hS hA rfl hl.1 rfl (Nat.le_of_ble_eq_true rfl) dX0_doOnce_29 ⟨Nat.le_of_ble_eq_true rfl, Nat.le_of_ble_eq_true rfl⟩ hlocks hnt (fun u hu => hu)

set_option maxHeartbeats 4000000 in
set_option maxRecDepth 100000 in
theorem kX0_step_t0 (l : Launch) (D : va_G) (q : Nat → Nat) (cA : ClassId) (S : XS) (hok : okX S) (hl9 : l.stackTraces = false) (hm9 : (v_steps 0 (mu_L (vXL S) + 1) 0 (vXL S) (vXT S)).1 = -1) (sz : Nat) : xt_M l yX0_step wsX0_step ({ frames := 9, cells := 1, slots := 6, locals := 147 }) D vwCl [(cA, .int)] [.ref (q 0), .int 0] (wX q cA S) sz "java/lang/IllegalStateException" (fun u : XS => vXL u = (v_steps 0 (mu_L (vXL S) + 1) 0 (vXL S) (vXT S)).2.2.1 ∧ vXT u = (v_steps 0 (mu_L (vXL S) + 1) 0 (vXL S) (vXT S)).2.2.2 ∧ x_samT S u) (wX q cA) := by
  refine vx_ofW (cc := cX0_step) (maxL := 3) (ret := (some .int)) (by decide) rfl ?_
  intro p e s m args below meth c s₁ B hml hnt hv
  obtain ⟨rfl, ⟨hsz, hP, hK, hD0⟩, hX⟩ := hv
  subst hsz
  have hD := hD0.self (sz := s.heap.size)
  have hA : ∀ z, s.heap.size ≤ z → va_A (wX q cA S) s.heap.size z := fun z h => Or.inr h
  have hS : va_S (va_A (wX q cA S) s.heap.size) s.heap s.heap [] := va_S.rf
  obtain ⟨hn40, hh200, hg100⟩ := id hok
  have hmu9 : mu_L (vXL S) ≤ 1320 := by
    have z := mu_le (vXL S)
    rw [vXL_len] at z
    omega
  have hx := B.exec
  have hb := B.bytes
  have hr := B.returns
  have hts := atoms_spec (ws := wsX0_step) B.pre
  have hown : s.vm.findClass RX0 = some m.cls := findClass_of_methodNamed B.named
  have hlocks := B.notSynchronized
  have hl := lv_entry ([.ref (q 0), .int 0]) (n := 3) (Nat.le_of_ble_eq_true rfl)
  rw [lg_entry_eq]
  generalize (lg_sl ([.ref (q 0), .int 0]) ++ List.replicate (3 - (lg_sl ([.ref (q 0), .int 0])).length) Slot.unset).toArray = ls at hl ⊢
  have hl : lv_has ls 3 [(0, .ref (q 0)), (1, .int 0)] := hl
  refine lv_iload_n hx hb dX0_step_0 rfl (lv_at hl 1 rfl) ?_
  refine lv_if_lt (tgt := 9) hx hb dX0_step_1 (by decide) (fun hc1 => ?_) (fun hc1 => ?_)
  · exact absurd hc1 (by decide)
  · refine lv_iload_n hx hb dX0_step_4 rfl (lv_at hl 1 rfl) ?_
    refine lv_iconst (v := 3) hx hb dX0_step_5 (by decide) ?_
    refine lv_icmp_le (tgt := 19) hx hb dX0_step_6 (by decide) (fun hc6 => ?_) (fun hc6 => ?_)
    · refine lv_iconst (v := 0) hx hb dX0_step_19 (by decide) ?_
      refine lv_istore_n (lv' := [(2, .int 0), (0, .ref (q 0)), (1, .int 0)]) hx hb dX0_step_20 rfl hl (by decide) rfl (fun ls hl => ?_)
      refine wlw (σ := Nat × Nat × XS) (fun (x9 : Nat × Nat × XS) (H : Heap) (locs : List Loc) ls => match x9 with | (n, f, u) => lv_has ls 3 [(2, .int (nI n)), (0, .ref (q 0)), (1, .int 0)] ∧ va_P D vwCl (wX q cA u) H ∧ va_D (va_A (wX q cA S) s.heap.size) (wX q cA u) ∧ va_S (va_A (wX q cA S) s.heap.size) s.heap H locs ∧ n + f = mu_L (vXL S) + 1 ∧ mu_L (vXL u) < f ∧ x_samT S u ∧ okX u ∧ (v_steps 0 (mu_L (vXL S) + 1) 0 (vXL S) (vXT S)) = v_steps 0 f n (vXL u) (vXT u)) (fun (x9 : Nat × Nat × XS) => match x9 with | (n, f, u) => mu_L (vXL u)) (0, mu_L (vXL S) + 1, S) ⟨lv_sub hl [0, 1, 2] rfl, hP, hD, hS, (Nat.zero_add _), (Nat.lt_succ_self _), (x_same.rf S).T, hok, rfl⟩ ?_
      intro x9 H locs ls hI ih21
      obtain ⟨n, f, u⟩ := x9
      obtain ⟨hl, hP, hD, hS, hnf, hmu, hsm, hok1, hq⟩ := hI
      have hl : lv_has ls 3 [(2, .int (nI n)), (0, .ref (q 0)), (1, .int 0)] := hl
      refine lv_iload_n hx hb dX0_step_21 rfl (lv_at hl 0 rfl) ?_
      refine lv_ldc (v := 1000000) hx hb hown (hts _ (List.mem_cons_of_mem _ bw_139)) dX0_step_22 ?_
      refine lv_icmp_ge (tgt := 41) hx hb dX0_step_24 (by decide) (fun hc24 => ?_) (fun hc24 => ?_)
      · exact absurd ((nI_leI (a := 1000000) (by decide) (by omega)).mp hc24) (by omega)
      · obtain ⟨f, rfl⟩ : ∃ g, f = g + 1 := ⟨f - 1, by omega⟩
        refine lv_aload_n hx hb dX0_step_27 rfl (lv_at hl 1 rfl) ?_
        refine lv_iload_n hx hb dX0_step_28 rfl (lv_at hl 2 rfl) ?_
        rcases Classical.em ((v_turn 0 (vXL u) (vXT u)).1 = -1) with hm1 | hr0
        · exact xt_pass (As := [.int 0]) (rest := []) ⟨hx, hb, hml, hown, hts⟩ (kX0_doOnce_t0 l D q cA u hok1 hl9 hm1 _) (cwV 1 hts (gd_V bw_140 bw_141 bw_416 bw_1 bw_142) rfl rfl rfl (by decide +kernel) ⟨Nat.le_of_ble_eq_true rfl, Nat.le_of_ble_eq_true rfl⟩) (va_recv (ci := 0) (q0 := 0) hK hP rfl rfl) hX hP hK hD hS hA rfl hl.1 rfl (Nat.le_of_ble_eq_true rfl) dX0_step_29 ⟨Nat.le_of_ble_eq_true rfl, Nat.le_of_ble_eq_true rfl⟩ hlocks hnt (fun u9 hu9 => by
            have e9 := vf_same hm1
            rw [hu9]
            exact ⟨by rw [hq, vs_0 (by rw [hm1]; decide), e9], by rw [hq, vs_0 (by rw [hm1]; decide), e9], hsm⟩)
        · have hr0 : (v_turn 0 (vXL u) (vXT u)).1 ≠ -1 := hr0
          refine xc_wi (As := [.int 0]) (rest := []) ⟨hx, hb, hml, hown, hts⟩ (kX0_doOnce_0 l D q cA u hok1 hr0 _) (cwV 1 hts (gd_V bw_140 bw_141 bw_416 bw_1 bw_142) rfl rfl rfl (by decide +kernel) ⟨Nat.le_of_ble_eq_true rfl, Nat.le_of_ble_eq_true rfl⟩) (va_recv (ci := 0) (q0 := 0) hK hP rfl rfl) hP hK hD hS hA rfl hl.1 rfl (Nat.le_of_ble_eq_true rfl) dX0_step_29 ⟨Nat.zero_le _, Nat.zero_le _⟩ (fun r2 u1 H locs hu1 hP hD hS => ?_)
          refine lv_if_eq (tgt := 41) hx hb dX0_step_32 (by decide) (fun hc32 => ?_) (fun hc32 => ?_)
          · have hz : ¬ (v_turn 0 (vXL u) (vXT u)).1 = 1 := by
              rw [← hu1.2]
              show ¬ r2 = 1
              rw [hc32]
              decide
            exact absurd (by rw [hq, vs_0 hz] at hm9; exact hm9) hr0
          · have e1 : vXL u1 = (v_turn 0 (vXL u) (vXT u)).2.1 := congrArg (fun z => z.2.1) hu1.2
            have e2 : vXT u1 = (v_turn 0 (vXL u) (vXT u)).2.2 := congrArg (fun z => z.2.2) hu1.2
            have hr1 : (v_turn 0 (vXL u) (vXT u)).1 = 1 := r_one hu1.2 (vt_all 0 (vXL u) (vXT u)).1 hr0 hc32
            have m1 := (vt_all 0 (vXL u) (vXT u)).2.2.2.1 hr1
            rw [← e1] at m1
            have hok2 : okX u1 := (hsm.tr hu1.1).ok hg100 (by rw [e1]; exact Nat.le_trans (vt_all 0 (vXL u) (vXT u)).2.1 (by rw [vXL_len]; exact hok1.1)) (by rw [e2]; exact (vt_all 0 (vXL u) (vXT u)).2.2.1 (by rw [vXT_len]; exact hok1.2.1))
            refine lv_iinc (k := 0) (v := nI (n + 1)) (lv' := [(2, .int (nI (n + 1))), (0, .ref (q 0)), (1, .int 0)]) hx hb dX0_step_35 hl rfl (ii_1 _) (by decide) rfl (fun ls hl => ?_)
            refine lv_goto (tgt := 21) hx hb dX0_step_38 (by decide) ?_
            exact ih21 (n + 1, f, u1) _ _ _ ⟨lv_sub hl [0, 1, 2] rfl, hP, hD, hS, (by omega), (by omega), (hsm.tr hu1.1), hok2, (by rw [hq, vs_1 hr1, ← e1, ← e2])⟩ (by show mu_L (vXL u1) < mu_L (vXL u); omega)
    · exact absurd (by decide) hc6

set_option maxHeartbeats 4000000 in
set_option maxRecDepth 100000 in
theorem kX0_doOnce_t3 (l : Launch) (D : va_G) (q : Nat → Nat) (cA : ClassId) (S : XS) (hok : okX S) (hl9 : l.stackTraces = false) (hm1 : (v_turn 3 (vXL S) (vXT S)).1 = -1) (sz : Nat) : xt_M l yX0_doOnce wsX0_doOnce ({ frames := 8, cells := 1, slots := 6, locals := 127 }) D vwCl [(cA, .int)] [.ref (q 0), .int 3] (wX q cA S) sz "java/lang/IllegalStateException" (fun u : XS => u = S) (wX q cA) := by
  refine vx_ofW (cc := cX0_doOnce) (maxL := 2) (ret := (some .boolean)) (by decide) rfl ?_
  intro p e s m args below meth c s₁ B hml hnt hv
  obtain ⟨rfl, ⟨hsz, hP, hK, hD0⟩, hX⟩ := hv
  subst hsz
  have hD := hD0.self (sz := s.heap.size)
  have hA : ∀ z, s.heap.size ≤ z → va_A (wX q cA S) s.heap.size z := fun z h => Or.inr h
  have hS : va_S (va_A (wX q cA S) s.heap.size) s.heap s.heap [] := va_S.rf
  obtain ⟨hn40, hh200, hg100⟩ := id hok
  have hx := B.exec
  have hb := B.bytes
  have hr := B.returns
  have hts := atoms_spec (ws := wsX0_doOnce) B.pre
  have hown : s.vm.findClass RX0 = some m.cls := findClass_of_methodNamed B.named
  have hlocks := B.notSynchronized
  have hl := lv_entry ([.ref (q 0), .int 3]) (n := 2) (Nat.le_of_ble_eq_true rfl)
  rw [lg_entry_eq]
  generalize (lg_sl ([.ref (q 0), .int 3]) ++ List.replicate (2 - (lg_sl ([.ref (q 0), .int 3])).length) Slot.unset).toArray = ls at hl ⊢
  have hl : lv_has ls 2 [(0, .ref (q 0)), (1, .int 3)] := hl
  refine lv_iload_n hx hb dX0_doOnce_0 rfl (lv_at hl 1 rfl) ?_
  refine lv_tableOut (tgt := 43) hx hb dX0_doOnce_1 (by decide) (by decide) ?_
  refine lv_aload_n hx hb dX0_doOnce_43 rfl (lv_at hl 0 rfl) ?_
  exact xt_pass (As := []) (rest := []) ⟨hx, hb, hml, hown, hts⟩ (kX0_dropBlocked_t l D q cA S hok hl9 (vf_3 hm1).1 (by rw [← vXT_len]; exact (vf_3 hm1).2) _) (cwV 0 hts (gd_V bw_185 bw_186 bw_427 bw_1 bw_187) rfl rfl rfl (by decide +kernel) ⟨Nat.le_of_ble_eq_true rfl, Nat.le_of_ble_eq_true rfl⟩) (va_recv (ci := 0) (q0 := 0) hK hP rfl rfl) hX hP hK hD hS hA rfl hl.1 rfl (Nat.le_of_ble_eq_true rfl) dX0_doOnce_44 ⟨Nat.le_of_ble_eq_true rfl, Nat.le_of_ble_eq_true rfl⟩ hlocks hnt (fun u hu => hu)

set_option maxHeartbeats 4000000 in
set_option maxRecDepth 100000 in
theorem kX0_step_t3 (l : Launch) (D : va_G) (q : Nat → Nat) (cA : ClassId) (S : XS) (hok : okX S) (hl9 : l.stackTraces = false) (hm9 : (v_steps 3 (mu_L (vXL S) + 1) 0 (vXL S) (vXT S)).1 = -1) (sz : Nat) : xt_M l yX0_step wsX0_step ({ frames := 9, cells := 1, slots := 6, locals := 148 }) D vwCl [(cA, .int)] [.ref (q 0), .int 3] (wX q cA S) sz "java/lang/IllegalStateException" (fun u : XS => vXL u = (v_steps 3 (mu_L (vXL S) + 1) 0 (vXL S) (vXT S)).2.2.1 ∧ vXT u = (v_steps 3 (mu_L (vXL S) + 1) 0 (vXL S) (vXT S)).2.2.2 ∧ x_samT S u) (wX q cA) := by
  refine vx_ofW (cc := cX0_step) (maxL := 3) (ret := (some .int)) (by decide) rfl ?_
  intro p e s m args below meth c s₁ B hml hnt hv
  obtain ⟨rfl, ⟨hsz, hP, hK, hD0⟩, hX⟩ := hv
  subst hsz
  have hD := hD0.self (sz := s.heap.size)
  have hA : ∀ z, s.heap.size ≤ z → va_A (wX q cA S) s.heap.size z := fun z h => Or.inr h
  have hS : va_S (va_A (wX q cA S) s.heap.size) s.heap s.heap [] := va_S.rf
  obtain ⟨hn40, hh200, hg100⟩ := id hok
  have hmu9 : mu_L (vXL S) ≤ 1320 := by
    have z := mu_le (vXL S)
    rw [vXL_len] at z
    omega
  have hx := B.exec
  have hb := B.bytes
  have hr := B.returns
  have hts := atoms_spec (ws := wsX0_step) B.pre
  have hown : s.vm.findClass RX0 = some m.cls := findClass_of_methodNamed B.named
  have hlocks := B.notSynchronized
  have hl := lv_entry ([.ref (q 0), .int 3]) (n := 3) (Nat.le_of_ble_eq_true rfl)
  rw [lg_entry_eq]
  generalize (lg_sl ([.ref (q 0), .int 3]) ++ List.replicate (3 - (lg_sl ([.ref (q 0), .int 3])).length) Slot.unset).toArray = ls at hl ⊢
  have hl : lv_has ls 3 [(0, .ref (q 0)), (1, .int 3)] := hl
  refine lv_iload_n hx hb dX0_step_0 rfl (lv_at hl 1 rfl) ?_
  refine lv_if_lt (tgt := 9) hx hb dX0_step_1 (by decide) (fun hc1 => ?_) (fun hc1 => ?_)
  · exact absurd hc1 (by decide)
  · refine lv_iload_n hx hb dX0_step_4 rfl (lv_at hl 1 rfl) ?_
    refine lv_iconst (v := 3) hx hb dX0_step_5 (by decide) ?_
    refine lv_icmp_le (tgt := 19) hx hb dX0_step_6 (by decide) (fun hc6 => ?_) (fun hc6 => ?_)
    · refine lv_iconst (v := 0) hx hb dX0_step_19 (by decide) ?_
      refine lv_istore_n (lv' := [(2, .int 0), (0, .ref (q 0)), (1, .int 3)]) hx hb dX0_step_20 rfl hl (by decide) rfl (fun ls hl => ?_)
      refine wlw (σ := Nat × Nat × XS) (fun (x9 : Nat × Nat × XS) (H : Heap) (locs : List Loc) ls => match x9 with | (n, f, u) => lv_has ls 3 [(2, .int (nI n)), (0, .ref (q 0)), (1, .int 3)] ∧ va_P D vwCl (wX q cA u) H ∧ va_D (va_A (wX q cA S) s.heap.size) (wX q cA u) ∧ va_S (va_A (wX q cA S) s.heap.size) s.heap H locs ∧ n + f = mu_L (vXL S) + 1 ∧ mu_L (vXL u) < f ∧ x_samT S u ∧ okX u ∧ (v_steps 3 (mu_L (vXL S) + 1) 0 (vXL S) (vXT S)) = v_steps 3 f n (vXL u) (vXT u)) (fun (x9 : Nat × Nat × XS) => match x9 with | (n, f, u) => mu_L (vXL u)) (0, mu_L (vXL S) + 1, S) ⟨lv_sub hl [0, 1, 2] rfl, hP, hD, hS, (Nat.zero_add _), (Nat.lt_succ_self _), (x_same.rf S).T, hok, rfl⟩ ?_
      intro x9 H locs ls hI ih21
      obtain ⟨n, f, u⟩ := x9
      obtain ⟨hl, hP, hD, hS, hnf, hmu, hsm, hok1, hq⟩ := hI
      have hl : lv_has ls 3 [(2, .int (nI n)), (0, .ref (q 0)), (1, .int 3)] := hl
      refine lv_iload_n hx hb dX0_step_21 rfl (lv_at hl 0 rfl) ?_
      refine lv_ldc (v := 1000000) hx hb hown (hts _ (List.mem_cons_of_mem _ bw_139)) dX0_step_22 ?_
      refine lv_icmp_ge (tgt := 41) hx hb dX0_step_24 (by decide) (fun hc24 => ?_) (fun hc24 => ?_)
      · exact absurd ((nI_leI (a := 1000000) (by decide) (by omega)).mp hc24) (by omega)
      · obtain ⟨f, rfl⟩ : ∃ g, f = g + 1 := ⟨f - 1, by omega⟩
        refine lv_aload_n hx hb dX0_step_27 rfl (lv_at hl 1 rfl) ?_
        refine lv_iload_n hx hb dX0_step_28 rfl (lv_at hl 2 rfl) ?_
        rcases Classical.em ((v_turn 3 (vXL u) (vXT u)).1 = -1) with hm1 | hr0
        · exact xt_pass (As := [.int 3]) (rest := []) ⟨hx, hb, hml, hown, hts⟩ (kX0_doOnce_t3 l D q cA u hok1 hl9 hm1 _) (cwV 1 hts (gd_V bw_140 bw_141 bw_416 bw_1 bw_142) rfl rfl rfl (by decide +kernel) ⟨Nat.le_of_ble_eq_true rfl, Nat.le_of_ble_eq_true rfl⟩) (va_recv (ci := 0) (q0 := 0) hK hP rfl rfl) hX hP hK hD hS hA rfl hl.1 rfl (Nat.le_of_ble_eq_true rfl) dX0_step_29 ⟨Nat.le_of_ble_eq_true rfl, Nat.le_of_ble_eq_true rfl⟩ hlocks hnt (fun u9 hu9 => by
            have e9 := vf_same hm1
            rw [hu9]
            exact ⟨by rw [hq, vs_0 (by rw [hm1]; decide), e9], by rw [hq, vs_0 (by rw [hm1]; decide), e9], hsm⟩)
        · have hr0 : (v_turn 3 (vXL u) (vXT u)).1 ≠ -1 := hr0
          refine xc_wi (As := [.int 3]) (rest := []) ⟨hx, hb, hml, hown, hts⟩ (kX0_doOnce_3 l D q cA u hok1 hr0 _) (cwV 1 hts (gd_V bw_140 bw_141 bw_416 bw_1 bw_142) rfl rfl rfl (by decide +kernel) ⟨Nat.le_of_ble_eq_true rfl, Nat.le_of_ble_eq_true rfl⟩) (va_recv (ci := 0) (q0 := 0) hK hP rfl rfl) hP hK hD hS hA rfl hl.1 rfl (Nat.le_of_ble_eq_true rfl) dX0_step_29 ⟨Nat.zero_le _, Nat.zero_le _⟩ (fun r2 u1 H locs hu1 hP hD hS => ?_)
          refine lv_if_eq (tgt := 41) hx hb dX0_step_32 (by decide) (fun hc32 => ?_) (fun hc32 => ?_)
          · have hz : ¬ (v_turn 3 (vXL u) (vXT u)).1 = 1 := by
              rw [← hu1.2]
              show ¬ r2 = 1
              rw [hc32]
              decide
            exact absurd (by rw [hq, vs_0 hz] at hm9; exact hm9) hr0
          · have e1 : vXL u1 = (v_turn 3 (vXL u) (vXT u)).2.1 := congrArg (fun z => z.2.1) hu1.2
            have e2 : vXT u1 = (v_turn 3 (vXL u) (vXT u)).2.2 := congrArg (fun z => z.2.2) hu1.2
            have hr1 : (v_turn 3 (vXL u) (vXT u)).1 = 1 := r_one hu1.2 (vt_all 3 (vXL u) (vXT u)).1 hr0 hc32
            have m1 := (vt_all 3 (vXL u) (vXT u)).2.2.2.1 hr1
            rw [← e1] at m1
            have hok2 : okX u1 := (hsm.tr hu1.1).ok hg100 (by rw [e1]; exact Nat.le_trans (vt_all 3 (vXL u) (vXT u)).2.1 (by rw [vXL_len]; exact hok1.1)) (by rw [e2]; exact (vt_all 3 (vXL u) (vXT u)).2.2.1 (by rw [vXT_len]; exact hok1.2.1))
            refine lv_iinc (k := 0) (v := nI (n + 1)) (lv' := [(2, .int (nI (n + 1))), (0, .ref (q 0)), (1, .int 3)]) hx hb dX0_step_35 hl rfl (ii_1 _) (by decide) rfl (fun ls hl => ?_)
            refine lv_goto (tgt := 21) hx hb dX0_step_38 (by decide) ?_
            exact ih21 (n + 1, f, u1) _ _ _ ⟨lv_sub hl [0, 1, 2] rfl, hP, hD, hS, (by omega), (by omega), (hsm.tr hu1.1), hok2, (by rw [hq, vs_1 hr1, ← e1, ← e2])⟩ (by show mu_L (vXL u1) < mu_L (vXL u); omega)
    · exact absurd (by decide) hc6

set_option maxHeartbeats 4000000 in
set_option maxRecDepth 100000 in
theorem kX0_step_no (l : Launch) (D : va_G) (q : Nat → Nat) (cA : ClassId) (S : XS) (hok : okX S) (hl9 : l.stackTraces = false) (x : Int32) (hx9 : x < 0 ∨ 3 < x) (sz : Nat) : xt_M l yX0_step wsX0_step ({ frames := 6, cells := 1, slots := 6, locals := 82 }) D vwCl [(cA, .int)] [.ref (q 0), .int x] (wX q cA S) sz "java/lang/IllegalArgumentException" (fun u : XS => u = S) (wX q cA) := by
  refine vx_ofW (cc := cX0_step) (maxL := 3) (ret := (some .int)) (by decide) rfl ?_
  intro p e s m args below meth c s₁ B hml hnt hv
  obtain ⟨rfl, ⟨hsz, hP, hK, hD0⟩, hX⟩ := hv
  subst hsz
  have hD := hD0.self (sz := s.heap.size)
  have hA : ∀ z, s.heap.size ≤ z → va_A (wX q cA S) s.heap.size z := fun z h => Or.inr h
  have hS : va_S (va_A (wX q cA S) s.heap.size) s.heap s.heap [] := va_S.rf
  obtain ⟨hn40, hh200, hg100⟩ := id hok
  have hx := B.exec
  have hb := B.bytes
  have hr := B.returns
  have hts := atoms_spec (ws := wsX0_step) B.pre
  have hown : s.vm.findClass RX0 = some m.cls := findClass_of_methodNamed B.named
  have hlocks := B.notSynchronized
  have hl := lv_entry ([.ref (q 0), .int x]) (n := 3) (Nat.le_of_ble_eq_true rfl)
  rw [lg_entry_eq]
  generalize (lg_sl ([.ref (q 0), .int x]) ++ List.replicate (3 - (lg_sl ([.ref (q 0), .int x])).length) Slot.unset).toArray = ls at hl ⊢
  have hl : lv_has ls 3 [(0, .ref (q 0)), (1, .int x)] := hl
  refine lv_iload_n hx hb dX0_step_0 rfl (lv_at hl 1 rfl) ?_
  refine lv_if_lt (tgt := 9) hx hb dX0_step_1 (by decide) (fun hc1 => ?_) (fun hc1 => ?_)
  · have hpo : S = S := rfl
    exact xt_thr (E := "java/lang/IllegalArgumentException") (text := "no such step") hl9 hX (by decide) (by decide) (by decide) xi36 xj36 bw_97 bw_6 hx hb hml hts hown hlocks hnt hl.1 hK hS S hP hD hpo dX0_step_9 dX0_step_12 dX0_step_13 dX0_step_15 dX0_step_18 (Nat.le_of_ble_eq_true rfl) (Nat.le_of_ble_eq_true rfl) (Nat.le_of_ble_eq_true rfl) (Nat.le_of_ble_eq_true rfl)
  · refine lv_iload_n hx hb dX0_step_4 rfl (lv_at hl 1 rfl) ?_
    refine lv_iconst (v := 3) hx hb dX0_step_5 (by decide) ?_
    refine lv_icmp_le (tgt := 19) hx hb dX0_step_6 (by decide) (fun hc6 => ?_) (fun hc6 => ?_)
    · exact hx9.elim (fun z => absurd z hc1) (fun z => absurd z (Int32.not_lt.mpr hc6))
    · have hpo : S = S := rfl
      exact xt_thr (E := "java/lang/IllegalArgumentException") (text := "no such step") hl9 hX (by decide) (by decide) (by decide) xi36 xj36 bw_97 bw_6 hx hb hml hts hown hlocks hnt hl.1 hK hS S hP hD hpo dX0_step_9 dX0_step_12 dX0_step_13 dX0_step_15 dX0_step_18 (Nat.le_of_ble_eq_true rfl) (Nat.le_of_ble_eq_true rfl) (Nat.le_of_ble_eq_true rfl) (Nat.le_of_ble_eq_true rfl)

set_option maxHeartbeats 4000000 in
set_option maxRecDepth 100000 in
theorem kX0_literal_no (l : Launch) (D : va_G) (q : Nat → Nat) (cA : ClassId) (S : XS) (hok : okX S) (hl9 : l.stackTraces = false) (x : Int32) (h9 : k_isL x = false) (sz : Nat) : xt_M l yX0_literal wsX0_literal ({ frames := 6, cells := 1, slots := 6, locals := 82 }) D vwCl [(cA, .int)] [.ref (q 0), .int x] (wX q cA S) sz "java/lang/IllegalArgumentException" (fun u : XS => u = S) (wX q cA) := by
  refine vx_ofW (cc := cX0_literal) (maxL := 2) (ret := (some .int)) (by decide) rfl ?_
  intro p e s m args below meth c s₁ B hml hnt hv
  obtain ⟨rfl, ⟨hsz, hP, hK, hD0⟩, hX⟩ := hv
  subst hsz
  have hD := hD0.self (sz := s.heap.size)
  have hA : ∀ z, s.heap.size ≤ z → va_A (wX q cA S) s.heap.size z := fun z h => Or.inr h
  have hS : va_S (va_A (wX q cA S) s.heap.size) s.heap s.heap [] := va_S.rf
  obtain ⟨hn40, hh200, hg100⟩ := id hok
  have hx := B.exec
  have hb := B.bytes
  have hr := B.returns
  have hts := atoms_spec (ws := wsX0_literal) B.pre
  have hown : s.vm.findClass RX0 = some m.cls := findClass_of_methodNamed B.named
  have hlocks := B.notSynchronized
  have hl := lv_entry ([.ref (q 0), .int x]) (n := 2) (Nat.le_of_ble_eq_true rfl)
  rw [lg_entry_eq]
  generalize (lg_sl ([.ref (q 0), .int x]) ++ List.replicate (2 - (lg_sl ([.ref (q 0), .int x])).length) Slot.unset).toArray = ls at hl ⊢
  have hl : lv_has ls 2 [(0, .ref (q 0)), (1, .int x)] := hl
  refine lv_iload_n hx hb dX0_literal_0 rfl (lv_at hl 1 rfl) ?_
  refine xc_s (As := [.int x]) (rest := []) ⟨hx, hb, hml, hown, hts⟩ (kX0_isLiteral l x) (va_cwS 1 hts (gd_S bw_94 bw_95 bw_1 bw_96) rfl rfl rfl (by decide +kernel) ⟨Nat.le_of_ble_eq_true rfl, Nat.le_of_ble_eq_true rfl⟩) rfl hl.1 rfl (Nat.le_of_ble_eq_true rfl) dX0_literal_1 ⟨Nat.zero_le _, Nat.zero_le _⟩ ?_
  refine lv_if_ne (tgt := 17) hx hb dX0_literal_4 (by decide) (fun hc4 => ?_) (fun hc4 => ?_)
  · exact absurd (kb_n0.mp hc4) (by rw [h9]; decide)
  · have hpo : S = S := rfl
    exact xt_thr (E := "java/lang/IllegalArgumentException") (text := "no literal") hl9 hX (by decide) (by decide) (by decide) xi36 xj36 bw_97 bw_6 hx hb hml hts hown hlocks hnt hl.1 hK hS S hP hD hpo dX0_literal_7 dX0_literal_10 dX0_literal_11 dX0_literal_13 dX0_literal_16 (Nat.le_of_ble_eq_true rfl) (Nat.le_of_ble_eq_true rfl) (Nat.le_of_ble_eq_true rfl) (Nat.le_of_ble_eq_true rfl)

set_option maxHeartbeats 4000000 in
set_option maxRecDepth 100000 in
theorem kX0_assign_no (l : Launch) (D : va_G) (q : Nat → Nat) (cA : ClassId) (S : XS) (hok : okX S) (hl9 : l.stackTraces = false) (x b : Int32) (h9 : k_isV x = false) (sz : Nat) : xt_M l yX0_assign wsX0_assign ({ frames := 6, cells := 1, slots := 6, locals := 82 }) D vwCl [(cA, .int)] [.ref (q 0), .int x, .int b] (wX q cA S) sz "java/lang/IllegalArgumentException" (fun u : XS => u = S) (wX q cA) := by
  refine vx_ofW (cc := cX0_assign) (maxL := 4) (ret := (some .boolean)) (by decide) rfl ?_
  intro p e s m args below meth c s₁ B hml hnt hv
  obtain ⟨rfl, ⟨hsz, hP, hK, hD0⟩, hX⟩ := hv
  subst hsz
  have hD := hD0.self (sz := s.heap.size)
  have hA : ∀ z, s.heap.size ≤ z → va_A (wX q cA S) s.heap.size z := fun z h => Or.inr h
  have hS : va_S (va_A (wX q cA S) s.heap.size) s.heap s.heap [] := va_S.rf
  obtain ⟨hn40, hh200, hg100⟩ := id hok
  have hx := B.exec
  have hb := B.bytes
  have hr := B.returns
  have hts := atoms_spec (ws := wsX0_assign) B.pre
  have hown : s.vm.findClass RX0 = some m.cls := findClass_of_methodNamed B.named
  have hlocks := B.notSynchronized
  have hl := lv_entry ([.ref (q 0), .int x, .int b]) (n := 4) (Nat.le_of_ble_eq_true rfl)
  rw [lg_entry_eq]
  generalize (lg_sl ([.ref (q 0), .int x, .int b]) ++ List.replicate (4 - (lg_sl ([.ref (q 0), .int x, .int b])).length) Slot.unset).toArray = ls at hl ⊢
  have hl : lv_has ls 4 [(0, .ref (q 0)), (1, .int x), (2, .int b)] := hl
  refine lv_iload_n hx hb dX0_assign_0 rfl (lv_at hl 1 rfl) ?_
  refine xc_s (As := [.int x]) (rest := []) ⟨hx, hb, hml, hown, hts⟩ (kX0_isVariable l x) (va_cwS 1 hts (gd_S bw_206 bw_207 bw_1 bw_208) rfl rfl rfl (by decide +kernel) ⟨Nat.le_of_ble_eq_true rfl, Nat.le_of_ble_eq_true rfl⟩) rfl hl.1 rfl (Nat.le_of_ble_eq_true rfl) dX0_assign_1 ⟨Nat.zero_le _, Nat.zero_le _⟩ ?_
  refine lv_if_ne (tgt := 17) hx hb dX0_assign_4 (by decide) (fun hc4 => ?_) (fun hc4 => ?_)
  · exact absurd (kb_n0.mp hc4) (by rw [h9]; decide)
  · have hpo : S = S := rfl
    exact xt_thr (E := "java/lang/IllegalArgumentException") (text := "no such variable") hl9 hX (by decide) (by decide) (by decide) xi36 xj36 bw_97 bw_6 hx hb hml hts hown hlocks hnt hl.1 hK hS S hP hD hpo dX0_assign_7 dX0_assign_10 dX0_assign_11 dX0_assign_13 dX0_assign_16 (Nat.le_of_ble_eq_true rfl) (Nat.le_of_ble_eq_true rfl) (Nat.le_of_ble_eq_true rfl) (Nat.le_of_ble_eq_true rfl)

set_option maxHeartbeats 4000000 in
set_option maxRecDepth 100000 in
theorem kX0_eliminate_bad (l : Launch) (D : va_G) (q : Nat → Nat) (cA : ClassId) (S : XS) (hok : okX S) (hl9 : l.stackTraces = false) (x : Int32) (h9 : k_isV x = false) (sz : Nat) : xt_M l yX0_eliminate wsX0_eliminate ({ frames := 6, cells := 1, slots := 6, locals := 82 }) D vwCl [(cA, .int)] [.ref (q 0), .int x] (wX q cA S) sz "java/lang/IllegalArgumentException" (fun u : XS => u = S) (wX q cA) := by
  refine vx_ofW (cc := cX0_eliminate) (maxL := 4) (ret := (some .int)) (by decide) rfl ?_
  intro p e s m args below meth c s₁ B hml hnt hv
  obtain ⟨rfl, ⟨hsz, hP, hK, hD0⟩, hX⟩ := hv
  subst hsz
  have hD := hD0.self (sz := s.heap.size)
  have hA : ∀ z, s.heap.size ≤ z → va_A (wX q cA S) s.heap.size z := fun z h => Or.inr h
  have hS : va_S (va_A (wX q cA S) s.heap.size) s.heap s.heap [] := va_S.rf
  obtain ⟨hn40, hh200, hg100⟩ := id hok
  have hx := B.exec
  have hb := B.bytes
  have hr := B.returns
  have hts := atoms_spec (ws := wsX0_eliminate) B.pre
  have hown : s.vm.findClass RX0 = some m.cls := findClass_of_methodNamed B.named
  have hlocks := B.notSynchronized
  have hl := lv_entry ([.ref (q 0), .int x]) (n := 4) (Nat.le_of_ble_eq_true rfl)
  rw [lg_entry_eq]
  generalize (lg_sl ([.ref (q 0), .int x]) ++ List.replicate (4 - (lg_sl ([.ref (q 0), .int x])).length) Slot.unset).toArray = ls at hl ⊢
  have hl : lv_has ls 4 [(0, .ref (q 0)), (1, .int x)] := hl
  refine lv_iload_n hx hb dX0_eliminate_0 rfl (lv_at hl 1 rfl) ?_
  refine xc_s (As := [.int x]) (rest := []) ⟨hx, hb, hml, hown, hts⟩ (kX0_isVariable l x) (va_cwS 1 hts (gd_S bw_206 bw_207 bw_1 bw_208) rfl rfl rfl (by decide +kernel) ⟨Nat.le_of_ble_eq_true rfl, Nat.le_of_ble_eq_true rfl⟩) rfl hl.1 rfl (Nat.le_of_ble_eq_true rfl) dX0_eliminate_1 ⟨Nat.zero_le _, Nat.zero_le _⟩ ?_
  refine lv_if_ne (tgt := 17) hx hb dX0_eliminate_4 (by decide) (fun hc4 => ?_) (fun hc4 => ?_)
  · exact absurd (kb_n0.mp hc4) (by rw [h9]; decide)
  · have hpo : S = S := rfl
    exact xt_thr (E := "java/lang/IllegalArgumentException") (text := "no such variable") hl9 hX (by decide) (by decide) (by decide) xi36 xj36 bw_97 bw_6 hx hb hml hts hown hlocks hnt hl.1 hK hS S hP hD hpo dX0_eliminate_7 dX0_eliminate_10 dX0_eliminate_11 dX0_eliminate_13 dX0_eliminate_16 (Nat.le_of_ble_eq_true rfl) (Nat.le_of_ble_eq_true rfl) (Nat.le_of_ble_eq_true rfl) (Nat.le_of_ble_eq_true rfl)

set_option maxHeartbeats 4000000 in
set_option maxRecDepth 100000 in
theorem kX0_clause_no (l : Launch) (D : va_G) (q : Nat → Nat) (cA : ClassId) (S : XS) (hok : okX S) (hl9 : l.stackTraces = false) (x : Int32) (hx9 : x < 0 ∨ nI (xn S) ≤ x) (sz : Nat) : xt_M l yX0_clause wsX0_clause ({ frames := 6, cells := 1, slots := 6, locals := 82 }) D vwCl [(cA, .int)] [.ref (q 0), .int x] (wX q cA S) sz "java/lang/IndexOutOfBoundsException" (fun u : XS => u = S) (wX q cA) := by
  refine vx_ofW (cc := cX0_clause) (maxL := 2) (ret := (some .int)) (by decide) rfl ?_
  intro p e s m args below meth c s₁ B hml hnt hv
  obtain ⟨rfl, ⟨hsz, hP, hK, hD0⟩, hX⟩ := hv
  subst hsz
  have hD := hD0.self (sz := s.heap.size)
  have hA : ∀ z, s.heap.size ≤ z → va_A (wX q cA S) s.heap.size z := fun z h => Or.inr h
  have hS : va_S (va_A (wX q cA S) s.heap.size) s.heap s.heap [] := va_S.rf
  obtain ⟨hn40, hh200, hg100⟩ := id hok
  have hx := B.exec
  have hb := B.bytes
  have hr := B.returns
  have hts := atoms_spec (ws := wsX0_clause) B.pre
  have hown : s.vm.findClass RX0 = some m.cls := findClass_of_methodNamed B.named
  have hlocks := B.notSynchronized
  have hinX0 : ∀ w ∈ u_ws RX0 TX0 12, w ∈ wsX0_clause := fun w h => List.mem_cons_of_mem _ (bw_X0 w h)
  have hf58 := hts _ (List.mem_cons_of_mem _ bw_23)
  have hl := lv_entry ([.ref (q 0), .int x]) (n := 2) (Nat.le_of_ble_eq_true rfl)
  rw [lg_entry_eq]
  generalize (lg_sl ([.ref (q 0), .int x]) ++ List.replicate (2 - (lg_sl ([.ref (q 0), .int x])).length) Slot.unset).toArray = ls at hl ⊢
  have hl : lv_has ls 2 [(0, .ref (q 0)), (1, .int x)] := hl
  refine lv_iload_n hx hb dX0_clause_0 rfl (lv_at hl 1 rfl) ?_
  refine lv_if_lt (tgt := 12) hx hb dX0_clause_1 (by decide) (fun hc1 => ?_) (fun hc1 => ?_)
  · have hpo : S = S := rfl
    exact xt_thr (E := "java/lang/IndexOutOfBoundsException") (text := "no such clause") hl9 hX (by decide) (by decide) (by decide) xi178 xj178 bw_228 bw_10 hx hb hml hts hown hlocks hnt hl.1 hK hS S hP hD hpo dX0_clause_12 dX0_clause_15 dX0_clause_16 dX0_clause_18 dX0_clause_21 (Nat.le_of_ble_eq_true rfl) (Nat.le_of_ble_eq_true rfl) (Nat.le_of_ble_eq_true rfl) (Nat.le_of_ble_eq_true rfl)
  · refine lv_iload_n hx hb dX0_clause_4 rfl (lv_at hl 1 rfl) ?_
    refine lv_aload_n hx hb dX0_clause_5 rfl (lv_at hl 0 rfl) ?_
    refine va_get (v := .int (nI (xn S))) hx hb hts hinX0 hown hK hP 0 rfl rfl 4 (by decide) hf58 (fun _ h9 => h9) rfl dX0_clause_6 ?_
    refine lv_icmp_lt (tgt := 22) hx hb dX0_clause_9 (by decide) (fun hc9 => ?_) (fun hc9 => ?_)
    · exact hx9.elim (fun z => absurd z hc1) (fun z => absurd hc9 (Int32.not_lt.mpr z))
    · have hpo : S = S := rfl
      exact xt_thr (E := "java/lang/IndexOutOfBoundsException") (text := "no such clause") hl9 hX (by decide) (by decide) (by decide) xi178 xj178 bw_228 bw_10 hx hb hml hts hown hlocks hnt hl.1 hK hS S hP hD hpo dX0_clause_12 dX0_clause_15 dX0_clause_16 dX0_clause_18 dX0_clause_21 (Nat.le_of_ble_eq_true rfl) (Nat.le_of_ble_eq_true rfl) (Nat.le_of_ble_eq_true rfl) (Nat.le_of_ble_eq_true rfl)

set_option maxHeartbeats 4000000 in
set_option maxRecDepth 100000 in
theorem kX0_number_no (l : Launch) (D : va_G) (q : Nat → Nat) (cA : ClassId) (S : XS) (hok : okX S) (hl9 : l.stackTraces = false) (x : Int32) (hx9 : x < 0 ∨ nI (xn S) ≤ x) (sz : Nat) : xt_M l yX0_number wsX0_number ({ frames := 6, cells := 1, slots := 6, locals := 82 }) D vwCl [(cA, .int)] [.ref (q 0), .int x] (wX q cA S) sz "java/lang/IndexOutOfBoundsException" (fun u : XS => u = S) (wX q cA) := by
  refine vx_ofW (cc := cX0_number) (maxL := 2) (ret := (some .int)) (by decide) rfl ?_
  intro p e s m args below meth c s₁ B hml hnt hv
  obtain ⟨rfl, ⟨hsz, hP, hK, hD0⟩, hX⟩ := hv
  subst hsz
  have hD := hD0.self (sz := s.heap.size)
  have hA : ∀ z, s.heap.size ≤ z → va_A (wX q cA S) s.heap.size z := fun z h => Or.inr h
  have hS : va_S (va_A (wX q cA S) s.heap.size) s.heap s.heap [] := va_S.rf
  obtain ⟨hn40, hh200, hg100⟩ := id hok
  have hx := B.exec
  have hb := B.bytes
  have hr := B.returns
  have hts := atoms_spec (ws := wsX0_number) B.pre
  have hown : s.vm.findClass RX0 = some m.cls := findClass_of_methodNamed B.named
  have hlocks := B.notSynchronized
  have hinX0 : ∀ w ∈ u_ws RX0 TX0 12, w ∈ wsX0_number := fun w h => List.mem_cons_of_mem _ (bw_X0 w h)
  have hf58 := hts _ (List.mem_cons_of_mem _ bw_23)
  have hl := lv_entry ([.ref (q 0), .int x]) (n := 2) (Nat.le_of_ble_eq_true rfl)
  rw [lg_entry_eq]
  generalize (lg_sl ([.ref (q 0), .int x]) ++ List.replicate (2 - (lg_sl ([.ref (q 0), .int x])).length) Slot.unset).toArray = ls at hl ⊢
  have hl : lv_has ls 2 [(0, .ref (q 0)), (1, .int x)] := hl
  refine lv_iload_n hx hb dX0_number_0 rfl (lv_at hl 1 rfl) ?_
  refine lv_if_lt (tgt := 12) hx hb dX0_number_1 (by decide) (fun hc1 => ?_) (fun hc1 => ?_)
  · have hpo : S = S := rfl
    exact xt_thr (E := "java/lang/IndexOutOfBoundsException") (text := "no such clause") hl9 hX (by decide) (by decide) (by decide) xi178 xj178 bw_228 bw_10 hx hb hml hts hown hlocks hnt hl.1 hK hS S hP hD hpo dX0_number_12 dX0_number_15 dX0_number_16 dX0_number_18 dX0_number_21 (Nat.le_of_ble_eq_true rfl) (Nat.le_of_ble_eq_true rfl) (Nat.le_of_ble_eq_true rfl) (Nat.le_of_ble_eq_true rfl)
  · refine lv_iload_n hx hb dX0_number_4 rfl (lv_at hl 1 rfl) ?_
    refine lv_aload_n hx hb dX0_number_5 rfl (lv_at hl 0 rfl) ?_
    refine va_get (v := .int (nI (xn S))) hx hb hts hinX0 hown hK hP 0 rfl rfl 4 (by decide) hf58 (fun _ h9 => h9) rfl dX0_number_6 ?_
    refine lv_icmp_lt (tgt := 22) hx hb dX0_number_9 (by decide) (fun hc9 => ?_) (fun hc9 => ?_)
    · exact hx9.elim (fun z => absurd z hc1) (fun z => absurd hc9 (Int32.not_lt.mpr z))
    · have hpo : S = S := rfl
      exact xt_thr (E := "java/lang/IndexOutOfBoundsException") (text := "no such clause") hl9 hX (by decide) (by decide) (by decide) xi178 xj178 bw_228 bw_10 hx hb hml hts hown hlocks hnt hl.1 hK hS S hP hD hpo dX0_number_12 dX0_number_15 dX0_number_16 dX0_number_18 dX0_number_21 (Nat.le_of_ble_eq_true rfl) (Nat.le_of_ble_eq_true rfl) (Nat.le_of_ble_eq_true rfl) (Nat.le_of_ble_eq_true rfl)

set_option maxHeartbeats 4000000 in
set_option maxRecDepth 100000 in
theorem kX0_entry_no (l : Launch) (D : va_G) (q : Nat → Nat) (cA : ClassId) (S : XS) (hok : okX S) (hl9 : l.stackTraces = false) (x : Int32) (hx9 : x < 0 ∨ nI (xh S) ≤ x) (sz : Nat) : xt_M l yX0_entry wsX0_entry ({ frames := 6, cells := 1, slots := 6, locals := 82 }) D vwCl [(cA, .int)] [.ref (q 0), .int x] (wX q cA S) sz "java/lang/IndexOutOfBoundsException" (fun u : XS => u = S) (wX q cA) := by
  refine vx_ofW (cc := cX0_entry) (maxL := 3) (ret := (some .int)) (by decide) rfl ?_
  intro p e s m args below meth c s₁ B hml hnt hv
  obtain ⟨rfl, ⟨hsz, hP, hK, hD0⟩, hX⟩ := hv
  subst hsz
  have hD := hD0.self (sz := s.heap.size)
  have hA : ∀ z, s.heap.size ≤ z → va_A (wX q cA S) s.heap.size z := fun z h => Or.inr h
  have hS : va_S (va_A (wX q cA S) s.heap.size) s.heap s.heap [] := va_S.rf
  obtain ⟨hn40, hh200, hg100⟩ := id hok
  have hx := B.exec
  have hb := B.bytes
  have hr := B.returns
  have hts := atoms_spec (ws := wsX0_entry) B.pre
  have hown : s.vm.findClass RX0 = some m.cls := findClass_of_methodNamed B.named
  have hlocks := B.notSynchronized
  have hinX0 : ∀ w ∈ u_ws RX0 TX0 12, w ∈ wsX0_entry := fun w h => List.mem_cons_of_mem _ (bw_X0 w h)
  have hf149 := hts _ (List.mem_cons_of_mem _ bw_27)
  have hl := lv_entry ([.ref (q 0), .int x]) (n := 3) (Nat.le_of_ble_eq_true rfl)
  rw [lg_entry_eq]
  generalize (lg_sl ([.ref (q 0), .int x]) ++ List.replicate (3 - (lg_sl ([.ref (q 0), .int x])).length) Slot.unset).toArray = ls at hl ⊢
  have hl : lv_has ls 3 [(0, .ref (q 0)), (1, .int x)] := hl
  refine lv_iload_n hx hb dX0_entry_0 rfl (lv_at hl 1 rfl) ?_
  refine lv_if_lt (tgt := 12) hx hb dX0_entry_1 (by decide) (fun hc1 => ?_) (fun hc1 => ?_)
  · have hpo : S = S := rfl
    exact xt_thr (E := "java/lang/IndexOutOfBoundsException") (text := "no such entry") hl9 hX (by decide) (by decide) (by decide) xi178 xj178 bw_228 bw_10 hx hb hml hts hown hlocks hnt hl.1 hK hS S hP hD hpo dX0_entry_12 dX0_entry_15 dX0_entry_16 dX0_entry_18 dX0_entry_21 (Nat.le_of_ble_eq_true rfl) (Nat.le_of_ble_eq_true rfl) (Nat.le_of_ble_eq_true rfl) (Nat.le_of_ble_eq_true rfl)
  · refine lv_iload_n hx hb dX0_entry_4 rfl (lv_at hl 1 rfl) ?_
    refine lv_aload_n hx hb dX0_entry_5 rfl (lv_at hl 0 rfl) ?_
    refine va_get (v := .int (nI (xh S))) hx hb hts hinX0 hown hK hP 0 rfl rfl 8 (by decide) hf149 (fun _ h9 => h9) rfl dX0_entry_6 ?_
    refine lv_icmp_lt (tgt := 22) hx hb dX0_entry_9 (by decide) (fun hc9 => ?_) (fun hc9 => ?_)
    · exact hx9.elim (fun z => absurd z hc1) (fun z => absurd hc9 (Int32.not_lt.mpr z))
    · have hpo : S = S := rfl
      exact xt_thr (E := "java/lang/IndexOutOfBoundsException") (text := "no such entry") hl9 hX (by decide) (by decide) (by decide) xi178 xj178 bw_228 bw_10 hx hb hml hts hown hlocks hnt hl.1 hK hS S hP hD hpo dX0_entry_12 dX0_entry_15 dX0_entry_16 dX0_entry_18 dX0_entry_21 (Nat.le_of_ble_eq_true rfl) (Nat.le_of_ble_eq_true rfl) (Nat.le_of_ble_eq_true rfl) (Nat.le_of_ble_eq_true rfl)

set_option maxHeartbeats 4000000 in
set_option maxRecDepth 100000 in
theorem kX0_eliminate_full (l : Launch) (D : va_G) (q : Nat → Nat) (cA : ClassId) (S : XS) (hok : okX S) (hl9 : l.stackTraces = false) (v : Nat) (h1 : 1 ≤ v) (h2 : v ≤ 10) (R : List Int32) (hg2 : q_g2 (vXL S) (nI v) (q_cw (vXL S) (k_both (nI v))) (xn S) 0 [] = some R) (hroom : ¬ xh S + q_cw (vXL S) (k_pos (nI v)) + 1 ≤ 200) (sz : Nat) : xt_M l yX0_eliminate wsX0_eliminate ({ frames := 6, cells := 1, slots := 6, locals := 95 }) D vwCl [(cA, .int)] [.ref (q 0), .int (nI v)] (wX q cA S) sz "java/lang/IllegalStateException" (fun f : Nat → Int32 => True) (fun f => wX q cA (xk (xd S) (xt S) (xn S) (xm S) (xh S) (xg S) (xse S) (xnu S) (xes S) (xel S) (xgi S) f)) := by
  refine vx_ofW (cc := cX0_eliminate) (maxL := 4) (ret := (some .int)) (by decide) rfl ?_
  intro p e s m args below meth c s₁ B hml hnt hv
  obtain ⟨rfl, ⟨hsz, hP, hK, hD0⟩, hX⟩ := hv
  subst hsz
  have hD := hD0.self (sz := s.heap.size)
  have hA : ∀ z, s.heap.size ≤ z → va_A (wX q cA S) s.heap.size z := fun z h => Or.inr h
  have hS : va_S (va_A (wX q cA S) s.heap.size) s.heap s.heap [] := va_S.rf
  obtain ⟨hn40, hh200, hg100⟩ := id hok
  have hM9 : (q_cw (vXL S) (k_both (nI v))) ≤ 40 := by
    have z := q_cw_le (vXL S) (k_both (nI v))
    rw [vXL_len] at z
    omega
  have hx := B.exec
  have hb := B.bytes
  have hr := B.returns
  have hts := atoms_spec (ws := wsX0_eliminate) B.pre
  have hown : s.vm.findClass RX0 = some m.cls := findClass_of_methodNamed B.named
  have hlocks := B.notSynchronized
  have hinX0 : ∀ w ∈ u_ws RX0 TX0 12, w ∈ wsX0_eliminate := fun w h => List.mem_cons_of_mem _ (bw_X0 w h)
  have hf149 := hts _ (List.mem_cons_of_mem _ bw_27)
  have hl := lv_entry ([.ref (q 0), .int (nI v)]) (n := 4) (Nat.le_of_ble_eq_true rfl)
  rw [lg_entry_eq]
  generalize (lg_sl ([.ref (q 0), .int (nI v)]) ++ List.replicate (4 - (lg_sl ([.ref (q 0), .int (nI v)])).length) Slot.unset).toArray = ls at hl ⊢
  have hl : lv_has ls 4 [(0, .ref (q 0)), (1, .int (nI v))] := hl
  refine lv_iload_n hx hb dX0_eliminate_0 rfl (lv_at hl 1 rfl) ?_
  refine xc_s (As := [.int (nI v)]) (rest := []) ⟨hx, hb, hml, hown, hts⟩ (kX0_isVariable l (nI v)) (va_cwS 1 hts (gd_S bw_206 bw_207 bw_1 bw_208) rfl rfl rfl (by decide +kernel) ⟨Nat.le_of_ble_eq_true rfl, Nat.le_of_ble_eq_true rfl⟩) rfl hl.1 rfl (Nat.le_of_ble_eq_true rfl) dX0_eliminate_1 ⟨Nat.zero_le _, Nat.zero_le _⟩ ?_
  refine lv_if_ne (tgt := 17) hx hb dX0_eliminate_4 (by decide) (fun hc4 => ?_) (fun hc4 => ?_)
  · refine lv_aload_n hx hb dX0_eliminate_17 rfl (lv_at hl 0 rfl) ?_
    refine lv_iload_n hx hb dX0_eliminate_18 rfl (lv_at hl 1 rfl) ?_
    refine xc_wi (As := [.int (nI v)]) (rest := []) ⟨hx, hb, hml, hown, hts⟩ (kX0_gatherResolvents l D q cA S hok (nI v) _) (cwV 1 hts (gd_V bw_209 bw_210 bw_430 bw_1 bw_211) rfl rfl rfl (by decide +kernel) ⟨Nat.le_of_ble_eq_true rfl, Nat.le_of_ble_eq_true rfl⟩) (va_recv (ci := 0) (q0 := 0) hK hP rfl rfl) hP hK hD hS hA rfl hl.1 rfl (Nat.le_of_ble_eq_true rfl) dX0_eliminate_19 ⟨Nat.zero_le _, Nat.zero_le _⟩ (fun r1 f1 H locs hf1 hP hD hS => ?_)
    have hP : va_P D vwCl (wX q cA (xk (xd S) (xt S) (xn S) (xm S) (xh S) (xg S) (xse S) (xnu S) (xes S) (xel S) (xgi S) f1)) H := hP
    have hD : va_D _ (wX q cA (xk (xd S) (xt S) (xn S) (xm S) (xh S) (xg S) (xse S) (xnu S) (xes S) (xel S) (xgi S) f1)) := hD
    obtain ⟨rfl, hR, hRm⟩ : r1 = nI R.length ∧ cl_lst R.length f1 = R ∧ R.length ≤ (q_cw (vXL S) (k_both (nI v))) := by
      have z : q_post (q_g2 (vXL S) (nI v) (q_cw (vXL S) (k_both (nI v))) (xn S) 0 []) (q_cw (vXL S) (k_both (nI v))) r1 f1 := hf1
      rw [hg2] at z
      exact z
    refine lv_istore_n (lv' := [(2, .int (nI R.length)), (0, .ref (q 0)), (1, .int (nI v))]) hx hb dX0_eliminate_22 rfl hl (by decide) rfl (fun ls hl => ?_)
    refine lv_iload_n hx hb dX0_eliminate_23 rfl (lv_at hl 0 rfl) ?_
    refine lv_iconst (v := (-1)) hx hb dX0_eliminate_24 (by decide) ?_
    refine lv_icmp_ne (tgt := 30) hx hb dX0_eliminate_25 (by decide) (fun hc25 => ?_) (fun hc25 => ?_)
    · refine lv_aload_n hx hb dX0_eliminate_30 rfl (lv_at hl 1 rfl) ?_
      refine va_get (v := .int (nI (xh S))) hx hb hts hinX0 hown hK hP 0 rfl rfl 8 (by decide) hf149 (fun _ h9 => h9) rfl dX0_eliminate_31 ?_
      refine lv_aload_n hx hb dX0_eliminate_34 rfl (lv_at hl 1 rfl) ?_
      refine lv_iload_n hx hb dX0_eliminate_35 rfl (lv_at hl 2 rfl) ?_
      refine xc_s (As := [.int (nI v)]) (rest := [.ref (q 0), .int (nI (xh S))]) ⟨hx, hb, hml, hown, hts⟩ (kX0_positive l (nI v)) (va_cwS 1 hts (gd_S bw_54 bw_55 bw_1 bw_56) rfl rfl rfl (by decide +kernel) ⟨Nat.le_of_ble_eq_true rfl, Nat.le_of_ble_eq_true rfl⟩) rfl hl.1 rfl (Nat.le_of_ble_eq_true rfl) dX0_eliminate_36 ⟨Nat.zero_le _, Nat.zero_le _⟩ ?_
      refine xc_rv (As := [.int (k_pos (nI v))]) (rest := [.int (nI (xh S))]) ⟨hx, hb, hml, hown, hts⟩ (kX0_countWith l D q cA (xk (xd S) (xt S) (xn S) (xm S) (xh S) (xg S) (xse S) (xnu S) (xes S) (xel S) (xgi S) f1) ⟨hn40, hh200, hg100⟩ (k_pos (nI v))) (cwV 1 hts (gd_V bw_212 bw_213 bw_431 bw_1 bw_214) rfl rfl rfl (by decide +kernel) ⟨Nat.le_of_ble_eq_true rfl, Nat.le_of_ble_eq_true rfl⟩) (va_recv (ci := 0) (q0 := 0) hK hP rfl rfl) hP hK rfl hl.1 rfl (Nat.le_of_ble_eq_true rfl) dX0_eliminate_39 ⟨Nat.zero_le _, Nat.zero_le _⟩ ?_
      refine xi_add hx hb dX0_eliminate_42 ?_
      refine lv_iconst (v := 1) hx hb dX0_eliminate_43 (by decide) ?_
      refine xi_inc hx hb dX0_eliminate_44 ?_
      refine lv_sipush (v := 200) hx hb dX0_eliminate_45 (by decide) ?_
      refine lv_icmp_le (tgt := 61) hx hb dX0_eliminate_48 (by decide) (fun hc48 => ?_) (fun hc48 => ?_)
      · exact absurd ((nI_leI (a := xh S + q_cw (vXL S) (k_pos (nI v)) + 1) (b := 200) (by have z := q_cw_le (vXL S) (k_pos (nI v)); rw [vXL_len] at z; omega) (by decide)).mp hc48) hroom
      · have hpo : True := trivial
        exact xt_thr (E := "java/lang/IllegalStateException") (text := "the stack would have more than 200 entries") hl9 hX (by decide) (by decide) (by decide) xi65 xj65 bw_125 bw_8 hx hb hml hts hown hlocks hnt hl.1 hK hS f1 hP hD hpo dX0_eliminate_51 dX0_eliminate_54 dX0_eliminate_55 dX0_eliminate_57 dX0_eliminate_60 (Nat.le_of_ble_eq_true rfl) (Nat.le_of_ble_eq_true rfl) (Nat.le_of_ble_eq_true rfl) (Nat.le_of_ble_eq_true rfl)
    · exact absurd hc25 (nI_m1 (by omega))
  · exact absurd (kb_0.mp hc4) (by rw [isV_nI v (by omega) h1]; decide)
