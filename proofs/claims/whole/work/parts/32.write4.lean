/-! The class: public methods that write. -/
set_option maxHeartbeats 4000000 in
set_option maxRecDepth 100000 in
theorem kX0_step_0 (l : Launch) (D : va_G) (q : Nat → Nat) (cA : ClassId) (S : XS) (hok : okX S) (hnt : (v_steps 0 (mu_L (vXL S) + 1) 0 (vXL S) (vXT S)).1 ≠ -1) (sz : Nat) : xw_Mi l yX0_step wsX0_step ({ frames := 5, cells := 0, slots := 0, locals := 113 }) D vwCl [(cA, .int)] [.ref (q 0), .int 0] (wX q cA S) sz (fun (r : Int32) (u : XS) => r = nI (v_steps 0 (mu_L (vXL S) + 1) 0 (vXL S) (vXT S)).2.1 ∧ vXL u = (v_steps 0 (mu_L (vXL S) + 1) 0 (vXL S) (vXT S)).2.2.1 ∧ vXT u = (v_steps 0 (mu_L (vXL S) + 1) 0 (vXL S) (vXT S)).2.2.2 ∧ x_samT S u) (wX q cA) := by
  refine Met.ofW (cc := cX0_step) (maxL := 3) (ret := (some .int)) (by decide) rfl ?_
  intro p e s m args below meth c s₁ B hml hv
  obtain ⟨rfl, hsz, hP, hK, hD0⟩ := hv
  subst hsz
  have hD := hD0.self (sz := s.heap.size)
  have hA : ∀ z, s.heap.size ≤ z → va_A (wX q cA S) s.heap.size z := fun z h => Or.inr h
  have hS : va_S (va_A (wX q cA S) s.heap.size) s.heap s.heap [] := va_S.rf
  obtain ⟨hn40, hh200, hg100⟩ := id hok
  have hmu9 : mu_L (vXL S) ≤ 1320 := by
    have z := mu_le (vXL S)
    rw [vXL_len] at z
    omega
  have hx := B.exec
  have hb := B.bytes
  have hr := B.returns
  have hts := atoms_spec (ws := wsX0_step) B.pre
  have hown : s.vm.findClass RX0 = some m.cls := findClass_of_methodNamed B.named
  have hlocks := B.notSynchronized
  have hl := lv_entry ([.ref (q 0), .int 0]) (n := 3) (Nat.le_of_ble_eq_true rfl)
  rw [lg_entry_eq]
  generalize (lg_sl ([.ref (q 0), .int 0]) ++ List.replicate (3 - (lg_sl ([.ref (q 0), .int 0])).length) Slot.unset).toArray = ls at hl ⊢
  have hl : lv_has ls 3 [(0, .ref (q 0)), (1, .int 0)] := hl
  refine lv_iload_n hx hb dX0_step_0 rfl (lv_at hl 1 rfl) ?_
  refine lv_if_lt (tgt := 9) hx hb dX0_step_1 (by decide) (fun hc1 => ?_) (fun hc1 => ?_)
  · exact absurd hc1 (by decide)
  · refine lv_iload_n hx hb dX0_step_4 rfl (lv_at hl 1 rfl) ?_
    refine lv_iconst (v := 3) hx hb dX0_step_5 (by decide) ?_
    refine lv_icmp_le (tgt := 19) hx hb dX0_step_6 (by decide) (fun hc6 => ?_) (fun hc6 => ?_)
    · refine lv_iconst (v := 0) hx hb dX0_step_19 (by decide) ?_
      refine lv_istore_n (lv' := [(2, .int 0), (0, .ref (q 0)), (1, .int 0)]) hx hb dX0_step_20 rfl hl (by decide) rfl (fun ls hl => ?_)
      refine wlw (σ := Nat × Nat × XS) (fun (x9 : Nat × Nat × XS) (H : Heap) (locs : List Loc) ls => match x9 with | (n, f, u) => lv_has ls 3 [(2, .int (nI n)), (0, .ref (q 0)), (1, .int 0)] ∧ va_P D vwCl (wX q cA u) H ∧ va_D (va_A (wX q cA S) s.heap.size) (wX q cA u) ∧ va_S (va_A (wX q cA S) s.heap.size) s.heap H locs ∧ n + f = mu_L (vXL S) + 1 ∧ mu_L (vXL u) < f ∧ x_samT S u ∧ okX u ∧ (v_steps 0 (mu_L (vXL S) + 1) 0 (vXL S) (vXT S)) = v_steps 0 f n (vXL u) (vXT u)) (fun (x9 : Nat × Nat × XS) => match x9 with | (n, f, u) => mu_L (vXL u)) (0, mu_L (vXL S) + 1, S) ⟨lv_sub hl [0, 1, 2] rfl, hP, hD, hS, (Nat.zero_add _), (Nat.lt_succ_self _), (x_same.rf S).T, hok, rfl⟩ ?_
      intro x9 H locs ls hI ih21
      obtain ⟨n, f, u⟩ := x9
      obtain ⟨hl, hP, hD, hS, hnf, hmu, hsm, hok1, hq⟩ := hI
      have hl : lv_has ls 3 [(2, .int (nI n)), (0, .ref (q 0)), (1, .int 0)] := hl
      refine lv_iload_n hx hb dX0_step_21 rfl (lv_at hl 0 rfl) ?_
      refine lv_ldc (v := 1000000) hx hb hown (hts _ (List.mem_cons_of_mem _ bw_139)) dX0_step_22 ?_
      refine lv_icmp_ge (tgt := 41) hx hb dX0_step_24 (by decide) (fun hc24 => ?_) (fun hc24 => ?_)
      · exact absurd ((nI_leI (a := 1000000) (by decide) (by omega)).mp hc24) (by omega)
      · obtain ⟨f, rfl⟩ : ∃ g, f = g + 1 := ⟨f - 1, by omega⟩
        have hr0 : (v_turn 0 (vXL u) (vXT u)).1 ≠ -1 := vs_room (Nat.succ_pos f) (by rw [← hq]; exact hnt)
        refine lv_aload_n hx hb dX0_step_27 rfl (lv_at hl 1 rfl) ?_
        refine lv_iload_n hx hb dX0_step_28 rfl (lv_at hl 2 rfl) ?_
        refine xc_wi (As := [.int 0]) (rest := []) ⟨hx, hb, hml, hown, hts⟩ (kX0_doOnce_0 l D q cA u hok1 hr0 _) (cwV 1 hts (gd_V bw_140 bw_141 bw_416 bw_1 bw_142) rfl rfl rfl (by decide +kernel) ⟨Nat.le_of_ble_eq_true rfl, Nat.le_of_ble_eq_true rfl⟩) (va_recv (ci := 0) (q0 := 0) hK hP rfl rfl) hP hK hD hS hA rfl hl.1 rfl (Nat.le_of_ble_eq_true rfl) dX0_step_29 ⟨Nat.zero_le _, Nat.zero_le _⟩ (fun r2 u1 H locs hu1 hP hD hS => ?_)
        refine lv_if_eq (tgt := 41) hx hb dX0_step_32 (by decide) (fun hc32 => ?_) (fun hc32 => ?_)
        · have e1 : vXL u1 = (v_turn 0 (vXL u) (vXT u)).2.1 := congrArg (fun z => z.2.1) hu1.2
          have e2 : vXT u1 = (v_turn 0 (vXL u) (vXT u)).2.2 := congrArg (fun z => z.2.2) hu1.2
          have hz : ¬ (v_turn 0 (vXL u) (vXT u)).1 = 1 := by
            rw [← hu1.2]
            show ¬ r2 = 1
            rw [hc32]
            decide
          have hZ := hq.trans (vs_0 hz)
          refine lv_iload_n hx hb dX0_step_41 rfl (lv_at hl 0 rfl) ?_
          have hpo : nI n = nI (v_steps 0 (mu_L (vXL S) + 1) 0 (vXL S) (vXT S)).2.1 ∧ vXL u1 = (v_steps 0 (mu_L (vXL S) + 1) 0 (vXL S) (vXT S)).2.2.1 ∧ vXT u1 = (v_steps 0 (mu_L (vXL S) + 1) 0 (vXL S) (vXT S)).2.2.2 ∧ x_samT S u1 := ⟨by rw [hZ], by rw [hZ, e1], by rw [hZ, e2], hsm.tr hu1.1⟩
          exact W.iret (v := (nI n)) hx hb hr (fun t ht hW => ⟨⟨(nI n), u1, rfl, hpo, by rw [ht]; exact hP, va_K.moved hW.alike hK, hD⟩, hS.F ht⟩) hS.2.2 dX0_step_42
        · have e1 : vXL u1 = (v_turn 0 (vXL u) (vXT u)).2.1 := congrArg (fun z => z.2.1) hu1.2
          have e2 : vXT u1 = (v_turn 0 (vXL u) (vXT u)).2.2 := congrArg (fun z => z.2.2) hu1.2
          have hr1 : (v_turn 0 (vXL u) (vXT u)).1 = 1 := r_one hu1.2 (vt_all 0 (vXL u) (vXT u)).1 hr0 hc32
          have m1 := (vt_all 0 (vXL u) (vXT u)).2.2.2.1 hr1
          rw [← e1] at m1
          have hok2 : okX u1 := (hsm.tr hu1.1).ok hg100 (by rw [e1]; exact Nat.le_trans (vt_all 0 (vXL u) (vXT u)).2.1 (by rw [vXL_len]; exact hok1.1)) (by rw [e2]; exact (vt_all 0 (vXL u) (vXT u)).2.2.1 (by rw [vXT_len]; exact hok1.2.1))
          refine lv_iinc (k := 0) (v := nI (n + 1)) (lv' := [(2, .int (nI (n + 1))), (0, .ref (q 0)), (1, .int 0)]) hx hb dX0_step_35 hl rfl (ii_1 _) (by decide) rfl (fun ls hl => ?_)
          refine lv_goto (tgt := 21) hx hb dX0_step_38 (by decide) ?_
          exact ih21 (n + 1, f, u1) _ _ _ ⟨lv_sub hl [0, 1, 2] rfl, hP, hD, hS, (by omega), (by omega), (hsm.tr hu1.1), hok2, (by rw [hq, vs_1 hr1, ← e1, ← e2])⟩ (by show mu_L (vXL u1) < mu_L (vXL u); omega)
    · exact absurd (by decide) hc6

set_option maxHeartbeats 4000000 in
set_option maxRecDepth 100000 in
theorem kX0_step_1 (l : Launch) (D : va_G) (q : Nat → Nat) (cA : ClassId) (S : XS) (hok : okX S) (hnt : (v_steps 1 (mu_L (vXL S) + 1) 0 (vXL S) (vXT S)).1 ≠ -1) (sz : Nat) : xw_Mi l yX0_step wsX0_step ({ frames := 3, cells := 0, slots := 0, locals := 64 }) D vwCl [(cA, .int)] [.ref (q 0), .int 1] (wX q cA S) sz (fun (r : Int32) (u : XS) => r = nI (v_steps 1 (mu_L (vXL S) + 1) 0 (vXL S) (vXT S)).2.1 ∧ vXL u = (v_steps 1 (mu_L (vXL S) + 1) 0 (vXL S) (vXT S)).2.2.1 ∧ vXT u = (v_steps 1 (mu_L (vXL S) + 1) 0 (vXL S) (vXT S)).2.2.2 ∧ x_samT S u) (wX q cA) := by
  refine Met.ofW (cc := cX0_step) (maxL := 3) (ret := (some .int)) (by decide) rfl ?_
  intro p e s m args below meth c s₁ B hml hv
  obtain ⟨rfl, hsz, hP, hK, hD0⟩ := hv
  subst hsz
  have hD := hD0.self (sz := s.heap.size)
  have hA : ∀ z, s.heap.size ≤ z → va_A (wX q cA S) s.heap.size z := fun z h => Or.inr h
  have hS : va_S (va_A (wX q cA S) s.heap.size) s.heap s.heap [] := va_S.rf
  obtain ⟨hn40, hh200, hg100⟩ := id hok
  have hmu9 : mu_L (vXL S) ≤ 1320 := by
    have z := mu_le (vXL S)
    rw [vXL_len] at z
    omega
  have hx := B.exec
  have hb := B.bytes
  have hr := B.returns
  have hts := atoms_spec (ws := wsX0_step) B.pre
  have hown : s.vm.findClass RX0 = some m.cls := findClass_of_methodNamed B.named
  have hlocks := B.notSynchronized
  have hl := lv_entry ([.ref (q 0), .int 1]) (n := 3) (Nat.le_of_ble_eq_true rfl)
  rw [lg_entry_eq]
  generalize (lg_sl ([.ref (q 0), .int 1]) ++ List.replicate (3 - (lg_sl ([.ref (q 0), .int 1])).length) Slot.unset).toArray = ls at hl ⊢
  have hl : lv_has ls 3 [(0, .ref (q 0)), (1, .int 1)] := hl
  refine lv_iload_n hx hb dX0_step_0 rfl (lv_at hl 1 rfl) ?_
  refine lv_if_lt (tgt := 9) hx hb dX0_step_1 (by decide) (fun hc1 => ?_) (fun hc1 => ?_)
  · exact absurd hc1 (by decide)
  · refine lv_iload_n hx hb dX0_step_4 rfl (lv_at hl 1 rfl) ?_
    refine lv_iconst (v := 3) hx hb dX0_step_5 (by decide) ?_
    refine lv_icmp_le (tgt := 19) hx hb dX0_step_6 (by decide) (fun hc6 => ?_) (fun hc6 => ?_)
    · refine lv_iconst (v := 0) hx hb dX0_step_19 (by decide) ?_
      refine lv_istore_n (lv' := [(2, .int 0), (0, .ref (q 0)), (1, .int 1)]) hx hb dX0_step_20 rfl hl (by decide) rfl (fun ls hl => ?_)
      refine wlw (σ := Nat × Nat × XS) (fun (x9 : Nat × Nat × XS) (H : Heap) (locs : List Loc) ls => match x9 with | (n, f, u) => lv_has ls 3 [(2, .int (nI n)), (0, .ref (q 0)), (1, .int 1)] ∧ va_P D vwCl (wX q cA u) H ∧ va_D (va_A (wX q cA S) s.heap.size) (wX q cA u) ∧ va_S (va_A (wX q cA S) s.heap.size) s.heap H locs ∧ n + f = mu_L (vXL S) + 1 ∧ mu_L (vXL u) < f ∧ x_samT S u ∧ okX u ∧ (v_steps 1 (mu_L (vXL S) + 1) 0 (vXL S) (vXT S)) = v_steps 1 f n (vXL u) (vXT u)) (fun (x9 : Nat × Nat × XS) => match x9 with | (n, f, u) => mu_L (vXL u)) (0, mu_L (vXL S) + 1, S) ⟨lv_sub hl [0, 1, 2] rfl, hP, hD, hS, (Nat.zero_add _), (Nat.lt_succ_self _), (x_same.rf S).T, hok, rfl⟩ ?_
      intro x9 H locs ls hI ih21
      obtain ⟨n, f, u⟩ := x9
      obtain ⟨hl, hP, hD, hS, hnf, hmu, hsm, hok1, hq⟩ := hI
      have hl : lv_has ls 3 [(2, .int (nI n)), (0, .ref (q 0)), (1, .int 1)] := hl
      refine lv_iload_n hx hb dX0_step_21 rfl (lv_at hl 0 rfl) ?_
      refine lv_ldc (v := 1000000) hx hb hown (hts _ (List.mem_cons_of_mem _ bw_139)) dX0_step_22 ?_
      refine lv_icmp_ge (tgt := 41) hx hb dX0_step_24 (by decide) (fun hc24 => ?_) (fun hc24 => ?_)
      · exact absurd ((nI_leI (a := 1000000) (by decide) (by omega)).mp hc24) (by omega)
      · obtain ⟨f, rfl⟩ : ∃ g, f = g + 1 := ⟨f - 1, by omega⟩
        have hr0 : (v_turn 1 (vXL u) (vXT u)).1 ≠ -1 := vs_room (Nat.succ_pos f) (by rw [← hq]; exact hnt)
        refine lv_aload_n hx hb dX0_step_27 rfl (lv_at hl 1 rfl) ?_
        refine lv_iload_n hx hb dX0_step_28 rfl (lv_at hl 2 rfl) ?_
        refine xc_wi (As := [.int 1]) (rest := []) ⟨hx, hb, hml, hown, hts⟩ (kX0_doOnce_1 l D q cA u hok1 hr0 _) (cwV 1 hts (gd_V bw_140 bw_141 bw_416 bw_1 bw_142) rfl rfl rfl (by decide +kernel) ⟨Nat.le_of_ble_eq_true rfl, Nat.le_of_ble_eq_true rfl⟩) (va_recv (ci := 0) (q0 := 0) hK hP rfl rfl) hP hK hD hS hA rfl hl.1 rfl (Nat.le_of_ble_eq_true rfl) dX0_step_29 ⟨Nat.zero_le _, Nat.zero_le _⟩ (fun r2 u1 H locs hu1 hP hD hS => ?_)
        refine lv_if_eq (tgt := 41) hx hb dX0_step_32 (by decide) (fun hc32 => ?_) (fun hc32 => ?_)
        · have e1 : vXL u1 = (v_turn 1 (vXL u) (vXT u)).2.1 := congrArg (fun z => z.2.1) hu1.2
          have e2 : vXT u1 = (v_turn 1 (vXL u) (vXT u)).2.2 := congrArg (fun z => z.2.2) hu1.2
          have hz : ¬ (v_turn 1 (vXL u) (vXT u)).1 = 1 := by
            rw [← hu1.2]
            show ¬ r2 = 1
            rw [hc32]
            decide
          have hZ := hq.trans (vs_0 hz)
          refine lv_iload_n hx hb dX0_step_41 rfl (lv_at hl 0 rfl) ?_
          have hpo : nI n = nI (v_steps 1 (mu_L (vXL S) + 1) 0 (vXL S) (vXT S)).2.1 ∧ vXL u1 = (v_steps 1 (mu_L (vXL S) + 1) 0 (vXL S) (vXT S)).2.2.1 ∧ vXT u1 = (v_steps 1 (mu_L (vXL S) + 1) 0 (vXL S) (vXT S)).2.2.2 ∧ x_samT S u1 := ⟨by rw [hZ], by rw [hZ, e1], by rw [hZ, e2], hsm.tr hu1.1⟩
          exact W.iret (v := (nI n)) hx hb hr (fun t ht hW => ⟨⟨(nI n), u1, rfl, hpo, by rw [ht]; exact hP, va_K.moved hW.alike hK, hD⟩, hS.F ht⟩) hS.2.2 dX0_step_42
        · have e1 : vXL u1 = (v_turn 1 (vXL u) (vXT u)).2.1 := congrArg (fun z => z.2.1) hu1.2
          have e2 : vXT u1 = (v_turn 1 (vXL u) (vXT u)).2.2 := congrArg (fun z => z.2.2) hu1.2
          have hr1 : (v_turn 1 (vXL u) (vXT u)).1 = 1 := r_one hu1.2 (vt_all 1 (vXL u) (vXT u)).1 hr0 hc32
          have m1 := (vt_all 1 (vXL u) (vXT u)).2.2.2.1 hr1
          rw [← e1] at m1
          have hok2 : okX u1 := (hsm.tr hu1.1).ok hg100 (by rw [e1]; exact Nat.le_trans (vt_all 1 (vXL u) (vXT u)).2.1 (by rw [vXL_len]; exact hok1.1)) (by rw [e2]; exact (vt_all 1 (vXL u) (vXT u)).2.2.1 (by rw [vXT_len]; exact hok1.2.1))
          refine lv_iinc (k := 0) (v := nI (n + 1)) (lv' := [(2, .int (nI (n + 1))), (0, .ref (q 0)), (1, .int 1)]) hx hb dX0_step_35 hl rfl (ii_1 _) (by decide) rfl (fun ls hl => ?_)
          refine lv_goto (tgt := 21) hx hb dX0_step_38 (by decide) ?_
          exact ih21 (n + 1, f, u1) _ _ _ ⟨lv_sub hl [0, 1, 2] rfl, hP, hD, hS, (by omega), (by omega), (hsm.tr hu1.1), hok2, (by rw [hq, vs_1 hr1, ← e1, ← e2])⟩ (by show mu_L (vXL u1) < mu_L (vXL u); omega)
    · exact absurd (by decide) hc6

set_option maxHeartbeats 4000000 in
set_option maxRecDepth 100000 in
theorem kX0_step_2 (l : Launch) (D : va_G) (q : Nat → Nat) (cA : ClassId) (S : XS) (hok : okX S) (hnt : (v_steps 2 (mu_L (vXL S) + 1) 0 (vXL S) (vXT S)).1 ≠ -1) (sz : Nat) : xw_Mi l yX0_step wsX0_step ({ frames := 5, cells := 0, slots := 0, locals := 106 }) D vwCl [(cA, .int)] [.ref (q 0), .int 2] (wX q cA S) sz (fun (r : Int32) (u : XS) => r = nI (v_steps 2 (mu_L (vXL S) + 1) 0 (vXL S) (vXT S)).2.1 ∧ vXL u = (v_steps 2 (mu_L (vXL S) + 1) 0 (vXL S) (vXT S)).2.2.1 ∧ vXT u = (v_steps 2 (mu_L (vXL S) + 1) 0 (vXL S) (vXT S)).2.2.2 ∧ x_samT S u) (wX q cA) := by
  refine Met.ofW (cc := cX0_step) (maxL := 3) (ret := (some .int)) (by decide) rfl ?_
  intro p e s m args below meth c s₁ B hml hv
  obtain ⟨rfl, hsz, hP, hK, hD0⟩ := hv
  subst hsz
  have hD := hD0.self (sz := s.heap.size)
  have hA : ∀ z, s.heap.size ≤ z → va_A (wX q cA S) s.heap.size z := fun z h => Or.inr h
  have hS : va_S (va_A (wX q cA S) s.heap.size) s.heap s.heap [] := va_S.rf
  obtain ⟨hn40, hh200, hg100⟩ := id hok
  have hmu9 : mu_L (vXL S) ≤ 1320 := by
    have z := mu_le (vXL S)
    rw [vXL_len] at z
    omega
  have hx := B.exec
  have hb := B.bytes
  have hr := B.returns
  have hts := atoms_spec (ws := wsX0_step) B.pre
  have hown : s.vm.findClass RX0 = some m.cls := findClass_of_methodNamed B.named
  have hlocks := B.notSynchronized
  have hl := lv_entry ([.ref (q 0), .int 2]) (n := 3) (Nat.le_of_ble_eq_true rfl)
  rw [lg_entry_eq]
  generalize (lg_sl ([.ref (q 0), .int 2]) ++ List.replicate (3 - (lg_sl ([.ref (q 0), .int 2])).length) Slot.unset).toArray = ls at hl ⊢
  have hl : lv_has ls 3 [(0, .ref (q 0)), (1, .int 2)] := hl
  refine lv_iload_n hx hb dX0_step_0 rfl (lv_at hl 1 rfl) ?_
  refine lv_if_lt (tgt := 9) hx hb dX0_step_1 (by decide) (fun hc1 => ?_) (fun hc1 => ?_)
  · exact absurd hc1 (by decide)
  · refine lv_iload_n hx hb dX0_step_4 rfl (lv_at hl 1 rfl) ?_
    refine lv_iconst (v := 3) hx hb dX0_step_5 (by decide) ?_
    refine lv_icmp_le (tgt := 19) hx hb dX0_step_6 (by decide) (fun hc6 => ?_) (fun hc6 => ?_)
    · refine lv_iconst (v := 0) hx hb dX0_step_19 (by decide) ?_
      refine lv_istore_n (lv' := [(2, .int 0), (0, .ref (q 0)), (1, .int 2)]) hx hb dX0_step_20 rfl hl (by decide) rfl (fun ls hl => ?_)
      refine wlw (σ := Nat × Nat × XS) (fun (x9 : Nat × Nat × XS) (H : Heap) (locs : List Loc) ls => match x9 with | (n, f, u) => lv_has ls 3 [(2, .int (nI n)), (0, .ref (q 0)), (1, .int 2)] ∧ va_P D vwCl (wX q cA u) H ∧ va_D (va_A (wX q cA S) s.heap.size) (wX q cA u) ∧ va_S (va_A (wX q cA S) s.heap.size) s.heap H locs ∧ n + f = mu_L (vXL S) + 1 ∧ mu_L (vXL u) < f ∧ x_samT S u ∧ okX u ∧ (v_steps 2 (mu_L (vXL S) + 1) 0 (vXL S) (vXT S)) = v_steps 2 f n (vXL u) (vXT u)) (fun (x9 : Nat × Nat × XS) => match x9 with | (n, f, u) => mu_L (vXL u)) (0, mu_L (vXL S) + 1, S) ⟨lv_sub hl [0, 1, 2] rfl, hP, hD, hS, (Nat.zero_add _), (Nat.lt_succ_self _), (x_same.rf S).T, hok, rfl⟩ ?_
      intro x9 H locs ls hI ih21
      obtain ⟨n, f, u⟩ := x9
      obtain ⟨hl, hP, hD, hS, hnf, hmu, hsm, hok1, hq⟩ := hI
      have hl : lv_has ls 3 [(2, .int (nI n)), (0, .ref (q 0)), (1, .int 2)] := hl
      refine lv_iload_n hx hb dX0_step_21 rfl (lv_at hl 0 rfl) ?_
      refine lv_ldc (v := 1000000) hx hb hown (hts _ (List.mem_cons_of_mem _ bw_139)) dX0_step_22 ?_
      refine lv_icmp_ge (tgt := 41) hx hb dX0_step_24 (by decide) (fun hc24 => ?_) (fun hc24 => ?_)
      · exact absurd ((nI_leI (a := 1000000) (by decide) (by omega)).mp hc24) (by omega)
      · obtain ⟨f, rfl⟩ : ∃ g, f = g + 1 := ⟨f - 1, by omega⟩
        have hr0 : (v_turn 2 (vXL u) (vXT u)).1 ≠ -1 := vs_room (Nat.succ_pos f) (by rw [← hq]; exact hnt)
        refine lv_aload_n hx hb dX0_step_27 rfl (lv_at hl 1 rfl) ?_
        refine lv_iload_n hx hb dX0_step_28 rfl (lv_at hl 2 rfl) ?_
        refine xc_wi (As := [.int 2]) (rest := []) ⟨hx, hb, hml, hown, hts⟩ (kX0_doOnce_2 l D q cA u hok1 hr0 _) (cwV 1 hts (gd_V bw_140 bw_141 bw_416 bw_1 bw_142) rfl rfl rfl (by decide +kernel) ⟨Nat.le_of_ble_eq_true rfl, Nat.le_of_ble_eq_true rfl⟩) (va_recv (ci := 0) (q0 := 0) hK hP rfl rfl) hP hK hD hS hA rfl hl.1 rfl (Nat.le_of_ble_eq_true rfl) dX0_step_29 ⟨Nat.zero_le _, Nat.zero_le _⟩ (fun r2 u1 H locs hu1 hP hD hS => ?_)
        refine lv_if_eq (tgt := 41) hx hb dX0_step_32 (by decide) (fun hc32 => ?_) (fun hc32 => ?_)
        · have e1 : vXL u1 = (v_turn 2 (vXL u) (vXT u)).2.1 := congrArg (fun z => z.2.1) hu1.2
          have e2 : vXT u1 = (v_turn 2 (vXL u) (vXT u)).2.2 := congrArg (fun z => z.2.2) hu1.2
          have hz : ¬ (v_turn 2 (vXL u) (vXT u)).1 = 1 := by
            rw [← hu1.2]
            show ¬ r2 = 1
            rw [hc32]
            decide
          have hZ := hq.trans (vs_0 hz)
          refine lv_iload_n hx hb dX0_step_41 rfl (lv_at hl 0 rfl) ?_
          have hpo : nI n = nI (v_steps 2 (mu_L (vXL S) + 1) 0 (vXL S) (vXT S)).2.1 ∧ vXL u1 = (v_steps 2 (mu_L (vXL S) + 1) 0 (vXL S) (vXT S)).2.2.1 ∧ vXT u1 = (v_steps 2 (mu_L (vXL S) + 1) 0 (vXL S) (vXT S)).2.2.2 ∧ x_samT S u1 := ⟨by rw [hZ], by rw [hZ, e1], by rw [hZ, e2], hsm.tr hu1.1⟩
          exact W.iret (v := (nI n)) hx hb hr (fun t ht hW => ⟨⟨(nI n), u1, rfl, hpo, by rw [ht]; exact hP, va_K.moved hW.alike hK, hD⟩, hS.F ht⟩) hS.2.2 dX0_step_42
        · have e1 : vXL u1 = (v_turn 2 (vXL u) (vXT u)).2.1 := congrArg (fun z => z.2.1) hu1.2
          have e2 : vXT u1 = (v_turn 2 (vXL u) (vXT u)).2.2 := congrArg (fun z => z.2.2) hu1.2
          have hr1 : (v_turn 2 (vXL u) (vXT u)).1 = 1 := r_one hu1.2 (vt_all 2 (vXL u) (vXT u)).1 hr0 hc32
          have m1 := (vt_all 2 (vXL u) (vXT u)).2.2.2.1 hr1
          rw [← e1] at m1
          have hok2 : okX u1 := (hsm.tr hu1.1).ok hg100 (by rw [e1]; exact Nat.le_trans (vt_all 2 (vXL u) (vXT u)).2.1 (by rw [vXL_len]; exact hok1.1)) (by rw [e2]; exact (vt_all 2 (vXL u) (vXT u)).2.2.1 (by rw [vXT_len]; exact hok1.2.1))
          refine lv_iinc (k := 0) (v := nI (n + 1)) (lv' := [(2, .int (nI (n + 1))), (0, .ref (q 0)), (1, .int 2)]) hx hb dX0_step_35 hl rfl (ii_1 _) (by decide) rfl (fun ls hl => ?_)
          refine lv_goto (tgt := 21) hx hb dX0_step_38 (by decide) ?_
          exact ih21 (n + 1, f, u1) _ _ _ ⟨lv_sub hl [0, 1, 2] rfl, hP, hD, hS, (by omega), (by omega), (hsm.tr hu1.1), hok2, (by rw [hq, vs_1 hr1, ← e1, ← e2])⟩ (by show mu_L (vXL u1) < mu_L (vXL u); omega)
    · exact absurd (by decide) hc6

set_option maxHeartbeats 4000000 in
set_option maxRecDepth 100000 in
theorem kX0_step_3 (l : Launch) (D : va_G) (q : Nat → Nat) (cA : ClassId) (S : XS) (hok : okX S) (hnt : (v_steps 3 (mu_L (vXL S) + 1) 0 (vXL S) (vXT S)).1 ≠ -1) (sz : Nat) : xw_Mi l yX0_step wsX0_step ({ frames := 5, cells := 0, slots := 0, locals := 113 }) D vwCl [(cA, .int)] [.ref (q 0), .int 3] (wX q cA S) sz (fun (r : Int32) (u : XS) => r = nI (v_steps 3 (mu_L (vXL S) + 1) 0 (vXL S) (vXT S)).2.1 ∧ vXL u = (v_steps 3 (mu_L (vXL S) + 1) 0 (vXL S) (vXT S)).2.2.1 ∧ vXT u = (v_steps 3 (mu_L (vXL S) + 1) 0 (vXL S) (vXT S)).2.2.2 ∧ x_samT S u) (wX q cA) := by
  refine Met.ofW (cc := cX0_step) (maxL := 3) (ret := (some .int)) (by decide) rfl ?_
  intro p e s m args below meth c s₁ B hml hv
  obtain ⟨rfl, hsz, hP, hK, hD0⟩ := hv
  subst hsz
  have hD := hD0.self (sz := s.heap.size)
  have hA : ∀ z, s.heap.size ≤ z → va_A (wX q cA S) s.heap.size z := fun z h => Or.inr h
  have hS : va_S (va_A (wX q cA S) s.heap.size) s.heap s.heap [] := va_S.rf
  obtain ⟨hn40, hh200, hg100⟩ := id hok
  have hmu9 : mu_L (vXL S) ≤ 1320 := by
    have z := mu_le (vXL S)
    rw [vXL_len] at z
    omega
  have hx := B.exec
  have hb := B.bytes
  have hr := B.returns
  have hts := atoms_spec (ws := wsX0_step) B.pre
  have hown : s.vm.findClass RX0 = some m.cls := findClass_of_methodNamed B.named
  have hlocks := B.notSynchronized
  have hl := lv_entry ([.ref (q 0), .int 3]) (n := 3) (Nat.le_of_ble_eq_true rfl)
  rw [lg_entry_eq]
  generalize (lg_sl ([.ref (q 0), .int 3]) ++ List.replicate (3 - (lg_sl ([.ref (q 0), .int 3])).length) Slot.unset).toArray = ls at hl ⊢
  have hl : lv_has ls 3 [(0, .ref (q 0)), (1, .int 3)] := hl
  refine lv_iload_n hx hb dX0_step_0 rfl (lv_at hl 1 rfl) ?_
  refine lv_if_lt (tgt := 9) hx hb dX0_step_1 (by decide) (fun hc1 => ?_) (fun hc1 => ?_)
  · exact absurd hc1 (by decide)
  · refine lv_iload_n hx hb dX0_step_4 rfl (lv_at hl 1 rfl) ?_
    refine lv_iconst (v := 3) hx hb dX0_step_5 (by decide) ?_
    refine lv_icmp_le (tgt := 19) hx hb dX0_step_6 (by decide) (fun hc6 => ?_) (fun hc6 => ?_)
    · refine lv_iconst (v := 0) hx hb dX0_step_19 (by decide) ?_
      refine lv_istore_n (lv' := [(2, .int 0), (0, .ref (q 0)), (1, .int 3)]) hx hb dX0_step_20 rfl hl (by decide) rfl (fun ls hl => ?_)
      refine wlw (σ := Nat × Nat × XS) (fun (x9 : Nat × Nat × XS) (H : Heap) (locs : List Loc) ls => match x9 with | (n, f, u) => lv_has ls 3 [(2, .int (nI n)), (0, .ref (q 0)), (1, .int 3)] ∧ va_P D vwCl (wX q cA u) H ∧ va_D (va_A (wX q cA S) s.heap.size) (wX q cA u) ∧ va_S (va_A (wX q cA S) s.heap.size) s.heap H locs ∧ n + f = mu_L (vXL S) + 1 ∧ mu_L (vXL u) < f ∧ x_samT S u ∧ okX u ∧ (v_steps 3 (mu_L (vXL S) + 1) 0 (vXL S) (vXT S)) = v_steps 3 f n (vXL u) (vXT u)) (fun (x9 : Nat × Nat × XS) => match x9 with | (n, f, u) => mu_L (vXL u)) (0, mu_L (vXL S) + 1, S) ⟨lv_sub hl [0, 1, 2] rfl, hP, hD, hS, (Nat.zero_add _), (Nat.lt_succ_self _), (x_same.rf S).T, hok, rfl⟩ ?_
      intro x9 H locs ls hI ih21
      obtain ⟨n, f, u⟩ := x9
      obtain ⟨hl, hP, hD, hS, hnf, hmu, hsm, hok1, hq⟩ := hI
      have hl : lv_has ls 3 [(2, .int (nI n)), (0, .ref (q 0)), (1, .int 3)] := hl
      refine lv_iload_n hx hb dX0_step_21 rfl (lv_at hl 0 rfl) ?_
      refine lv_ldc (v := 1000000) hx hb hown (hts _ (List.mem_cons_of_mem _ bw_139)) dX0_step_22 ?_
      refine lv_icmp_ge (tgt := 41) hx hb dX0_step_24 (by decide) (fun hc24 => ?_) (fun hc24 => ?_)
      · exact absurd ((nI_leI (a := 1000000) (by decide) (by omega)).mp hc24) (by omega)
      · obtain ⟨f, rfl⟩ : ∃ g, f = g + 1 := ⟨f - 1, by omega⟩
        have hr0 : (v_turn 3 (vXL u) (vXT u)).1 ≠ -1 := vs_room (Nat.succ_pos f) (by rw [← hq]; exact hnt)
        refine lv_aload_n hx hb dX0_step_27 rfl (lv_at hl 1 rfl) ?_
        refine lv_iload_n hx hb dX0_step_28 rfl (lv_at hl 2 rfl) ?_
        refine xc_wi (As := [.int 3]) (rest := []) ⟨hx, hb, hml, hown, hts⟩ (kX0_doOnce_3 l D q cA u hok1 hr0 _) (cwV 1 hts (gd_V bw_140 bw_141 bw_416 bw_1 bw_142) rfl rfl rfl (by decide +kernel) ⟨Nat.le_of_ble_eq_true rfl, Nat.le_of_ble_eq_true rfl⟩) (va_recv (ci := 0) (q0 := 0) hK hP rfl rfl) hP hK hD hS hA rfl hl.1 rfl (Nat.le_of_ble_eq_true rfl) dX0_step_29 ⟨Nat.zero_le _, Nat.zero_le _⟩ (fun r2 u1 H locs hu1 hP hD hS => ?_)
        refine lv_if_eq (tgt := 41) hx hb dX0_step_32 (by decide) (fun hc32 => ?_) (fun hc32 => ?_)
        · have e1 : vXL u1 = (v_turn 3 (vXL u) (vXT u)).2.1 := congrArg (fun z => z.2.1) hu1.2
          have e2 : vXT u1 = (v_turn 3 (vXL u) (vXT u)).2.2 := congrArg (fun z => z.2.2) hu1.2
          have hz : ¬ (v_turn 3 (vXL u) (vXT u)).1 = 1 := by
            rw [← hu1.2]
            show ¬ r2 = 1
            rw [hc32]
            decide
          have hZ := hq.trans (vs_0 hz)
          refine lv_iload_n hx hb dX0_step_41 rfl (lv_at hl 0 rfl) ?_
          have hpo : nI n = nI (v_steps 3 (mu_L (vXL S) + 1) 0 (vXL S) (vXT S)).2.1 ∧ vXL u1 = (v_steps 3 (mu_L (vXL S) + 1) 0 (vXL S) (vXT S)).2.2.1 ∧ vXT u1 = (v_steps 3 (mu_L (vXL S) + 1) 0 (vXL S) (vXT S)).2.2.2 ∧ x_samT S u1 := ⟨by rw [hZ], by rw [hZ, e1], by rw [hZ, e2], hsm.tr hu1.1⟩
          exact W.iret (v := (nI n)) hx hb hr (fun t ht hW => ⟨⟨(nI n), u1, rfl, hpo, by rw [ht]; exact hP, va_K.moved hW.alike hK, hD⟩, hS.F ht⟩) hS.2.2 dX0_step_42
        · have e1 : vXL u1 = (v_turn 3 (vXL u) (vXT u)).2.1 := congrArg (fun z => z.2.1) hu1.2
          have e2 : vXT u1 = (v_turn 3 (vXL u) (vXT u)).2.2 := congrArg (fun z => z.2.2) hu1.2
          have hr1 : (v_turn 3 (vXL u) (vXT u)).1 = 1 := r_one hu1.2 (vt_all 3 (vXL u) (vXT u)).1 hr0 hc32
          have m1 := (vt_all 3 (vXL u) (vXT u)).2.2.2.1 hr1
          rw [← e1] at m1
          have hok2 : okX u1 := (hsm.tr hu1.1).ok hg100 (by rw [e1]; exact Nat.le_trans (vt_all 3 (vXL u) (vXT u)).2.1 (by rw [vXL_len]; exact hok1.1)) (by rw [e2]; exact (vt_all 3 (vXL u) (vXT u)).2.2.1 (by rw [vXT_len]; exact hok1.2.1))
          refine lv_iinc (k := 0) (v := nI (n + 1)) (lv' := [(2, .int (nI (n + 1))), (0, .ref (q 0)), (1, .int 3)]) hx hb dX0_step_35 hl rfl (ii_1 _) (by decide) rfl (fun ls hl => ?_)
          refine lv_goto (tgt := 21) hx hb dX0_step_38 (by decide) ?_
          exact ih21 (n + 1, f, u1) _ _ _ ⟨lv_sub hl [0, 1, 2] rfl, hP, hD, hS, (by omega), (by omega), (hsm.tr hu1.1), hok2, (by rw [hq, vs_1 hr1, ← e1, ← e2])⟩ (by show mu_L (vXL u1) < mu_L (vXL u); omega)
    · exact absurd (by decide) hc6

set_option maxHeartbeats 4000000 in
set_option maxRecDepth 100000 in
theorem kX0_assign (l : Launch) (D : va_G) (q : Nat → Nat) (cA : ClassId) (S : XS) (hok : okX S) (v : Nat) (b : Int32) (h1 : 1 ≤ v) (h2 : v ≤ 10) (sz : Nat) : xw_Mi l yX0_assign wsX0_assign ({ frames := 1, cells := 0, slots := 0, locals := 21 }) D vwCl [(cA, .int)] [.ref (q 0), .int (nI v), .int b] (wX q cA S) sz (fun (r : Int32) (u : XS) => r = k_b (decide (¬ xt S &&& k_pos (nI v) = 0)) ∧ u = (xk (xd S) (k_mt (xt S) (if b = 0 then k_neg (nI v) else k_pos (nI v))) (xn S) (xm S) (xh S) (xg S) (xse S) (xnu S) (xes S) (xel S) (xgi S) (xre S))) (wX q cA) := by
  refine Met.ofW (cc := cX0_assign) (maxL := 4) (ret := (some .boolean)) (by decide) rfl ?_
  intro p e s m args below meth c s₁ B hml hv
  obtain ⟨rfl, hsz, hP, hK, hD0⟩ := hv
  subst hsz
  have hD := hD0.self (sz := s.heap.size)
  have hA : ∀ z, s.heap.size ≤ z → va_A (wX q cA S) s.heap.size z := fun z h => Or.inr h
  have hS : va_S (va_A (wX q cA S) s.heap.size) s.heap s.heap [] := va_S.rf
  obtain ⟨hn40, hh200, hg100⟩ := id hok
  have hx := B.exec
  have hb := B.bytes
  have hr := B.returns
  have hts := atoms_spec (ws := wsX0_assign) B.pre
  have hown : s.vm.findClass RX0 = some m.cls := findClass_of_methodNamed B.named
  have hlocks := B.notSynchronized
  have hinX0 : ∀ w ∈ u_ws RX0 TX0 12, w ∈ wsX0_assign := fun w h => List.mem_cons_of_mem _ (bw_X0 w h)
  have hf184 := hts _ (List.mem_cons_of_mem _ bw_20)
  have hl := lv_entry ([.ref (q 0), .int (nI v), .int b]) (n := 4) (Nat.le_of_ble_eq_true rfl)
  rw [lg_entry_eq]
  generalize (lg_sl ([.ref (q 0), .int (nI v), .int b]) ++ List.replicate (4 - (lg_sl ([.ref (q 0), .int (nI v), .int b])).length) Slot.unset).toArray = ls at hl ⊢
  have hl : lv_has ls 4 [(0, .ref (q 0)), (1, .int (nI v)), (2, .int b)] := hl
  refine lv_iload_n hx hb dX0_assign_0 rfl (lv_at hl 1 rfl) ?_
  refine xc_s (As := [.int (nI v)]) (rest := []) ⟨hx, hb, hml, hown, hts⟩ (kX0_isVariable l (nI v)) (va_cwS 1 hts (gd_S bw_206 bw_207 bw_1 bw_208) rfl rfl rfl (by decide +kernel) ⟨Nat.le_of_ble_eq_true rfl, Nat.le_of_ble_eq_true rfl⟩) rfl hl.1 rfl (Nat.le_of_ble_eq_true rfl) dX0_assign_1 ⟨Nat.zero_le _, Nat.zero_le _⟩ ?_
  refine lv_if_ne (tgt := 17) hx hb dX0_assign_4 (by decide) (fun hc4 => ?_) (fun hc4 => ?_)
  · refine lv_aload_n hx hb dX0_assign_17 rfl (lv_at hl 0 rfl) ?_
    refine va_get (v := .int (xt S)) hx hb hts hinX0 hown hK hP 0 rfl rfl 1 (by decide) hf184 (fun _ h9 => h9) rfl dX0_assign_18 ?_
    refine lv_iload_n hx hb dX0_assign_21 rfl (lv_at hl 1 rfl) ?_
    refine xc_s (As := [.int (nI v)]) (rest := [.int (xt S)]) ⟨hx, hb, hml, hown, hts⟩ (kX0_positive l (nI v)) (va_cwS 1 hts (gd_S bw_54 bw_55 bw_1 bw_56) rfl rfl rfl (by decide +kernel) ⟨Nat.le_of_ble_eq_true rfl, Nat.le_of_ble_eq_true rfl⟩) rfl hl.1 rfl (Nat.le_of_ble_eq_true rfl) dX0_assign_22 ⟨Nat.zero_le _, Nat.zero_le _⟩ ?_
    refine lv_iand hx hb dX0_assign_25 ?_
    refine lv_if_eq (tgt := 33) hx hb dX0_assign_26 (by decide) (fun hc26 => ?_) (fun hc26 => ?_)
    · refine lv_iconst (v := 0) hx hb dX0_assign_33 (by decide) ?_
      refine lv_istore_n (lv' := [(3, .int 0), (0, .ref (q 0)), (1, .int (nI v)), (2, .int b)]) hx hb dX0_assign_34 rfl hl (by decide) rfl (fun ls hl => ?_)
      refine lv_aload_n hx hb dX0_assign_35 rfl (lv_at hl 1 rfl) ?_
      refine lv_iload_n hx hb dX0_assign_36 rfl (lv_at hl 3 rfl) ?_
      refine lv_if_eq (tgt := 47) hx hb dX0_assign_37 (by decide) (fun hc37 => ?_) (fun hc37 => ?_)
      · refine lv_iload_n hx hb dX0_assign_47 rfl (lv_at hl 2 rfl) ?_
        refine xc_s (As := [.int (nI v)]) (rest := [.ref (q 0)]) ⟨hx, hb, hml, hown, hts⟩ (kX0_negative l (nI v)) (va_cwS 1 hts (gd_S bw_100 bw_101 bw_1 bw_102) rfl rfl rfl (by decide +kernel) ⟨Nat.le_of_ble_eq_true rfl, Nat.le_of_ble_eq_true rfl⟩) rfl hl.1 rfl (Nat.le_of_ble_eq_true rfl) dX0_assign_48 ⟨Nat.zero_le _, Nat.zero_le _⟩ ?_
        refine xc_wv (As := [.int (k_neg (nI v))]) (rest := []) ⟨hx, hb, hml, hown, hts⟩ (kX0_makeTrue l D q cA S hok (k_neg (nI v)) _) (cwV 1 hts (gd_V bw_76 bw_77 bw_412 bw_1 bw_78) rfl rfl rfl (by decide +kernel) ⟨Nat.le_of_ble_eq_true rfl, Nat.le_of_ble_eq_true rfl⟩) (va_recv (ci := 0) (q0 := 0) hK hP rfl rfl) hP hK hD hS hA rfl hl.1 rfl (Nat.le_of_ble_eq_true rfl) dX0_assign_51 ⟨Nat.zero_le _, Nat.zero_le _⟩ (fun u1 H locs hu1 hP hD hS => ?_)
        refine lv_iload_n hx hb dX0_assign_54 rfl (lv_at hl 0 rfl) ?_
        have hpo : 0 = k_b (decide (¬ xt S &&& k_pos (nI v) = 0)) ∧ u1 = (xk (xd S) (k_mt (xt S) (if b = 0 then k_neg (nI v) else k_pos (nI v))) (xn S) (xm S) (xh S) (xg S) (xse S) (xnu S) (xes S) (xel S) (xgi S) (xre S)) := ⟨by simp [k_b, hc26], by rw [hu1]; simp [k_mt, hc37]⟩
        exact W.zret (v := 0) hx hb hr (by rfl) (fun t ht hW => ⟨⟨0, u1, rfl, hpo, by rw [ht]; exact hP, va_K.moved hW.alike hK, hD⟩, hS.F ht⟩) hS.2.2 dX0_assign_55
      · refine lv_iload_n hx hb dX0_assign_40 rfl (lv_at hl 2 rfl) ?_
        refine xc_s (As := [.int (nI v)]) (rest := [.ref (q 0)]) ⟨hx, hb, hml, hown, hts⟩ (kX0_positive l (nI v)) (va_cwS 1 hts (gd_S bw_54 bw_55 bw_1 bw_56) rfl rfl rfl (by decide +kernel) ⟨Nat.le_of_ble_eq_true rfl, Nat.le_of_ble_eq_true rfl⟩) rfl hl.1 rfl (Nat.le_of_ble_eq_true rfl) dX0_assign_41 ⟨Nat.zero_le _, Nat.zero_le _⟩ ?_
        refine lv_goto (tgt := 51) hx hb dX0_assign_44 (by decide) ?_
        refine xc_wv (As := [.int (k_pos (nI v))]) (rest := []) ⟨hx, hb, hml, hown, hts⟩ (kX0_makeTrue l D q cA S hok (k_pos (nI v)) _) (cwV 1 hts (gd_V bw_76 bw_77 bw_412 bw_1 bw_78) rfl rfl rfl (by decide +kernel) ⟨Nat.le_of_ble_eq_true rfl, Nat.le_of_ble_eq_true rfl⟩) (va_recv (ci := 0) (q0 := 0) hK hP rfl rfl) hP hK hD hS hA rfl hl.1 rfl (Nat.le_of_ble_eq_true rfl) dX0_assign_51 ⟨Nat.zero_le _, Nat.zero_le _⟩ (fun u3 H locs hu3 hP hD hS => ?_)
        refine lv_iload_n hx hb dX0_assign_54 rfl (lv_at hl 0 rfl) ?_
        have hpo : 0 = k_b (decide (¬ xt S &&& k_pos (nI v) = 0)) ∧ u3 = (xk (xd S) (k_mt (xt S) (if b = 0 then k_neg (nI v) else k_pos (nI v))) (xn S) (xm S) (xh S) (xg S) (xse S) (xnu S) (xes S) (xel S) (xgi S) (xre S)) := ⟨by simp [k_b, hc26], by rw [hu3]; simp [k_mt, hc37]⟩
        exact W.zret (v := 0) hx hb hr (by rfl) (fun t ht hW => ⟨⟨0, u3, rfl, hpo, by rw [ht]; exact hP, va_K.moved hW.alike hK, hD⟩, hS.F ht⟩) hS.2.2 dX0_assign_55
    · refine lv_iconst (v := 1) hx hb dX0_assign_29 (by decide) ?_
      refine lv_goto (tgt := 34) hx hb dX0_assign_30 (by decide) ?_
      refine lv_istore_n (lv' := [(3, .int 1), (0, .ref (q 0)), (1, .int (nI v)), (2, .int b)]) hx hb dX0_assign_34 rfl hl (by decide) rfl (fun ls hl => ?_)
      refine lv_aload_n hx hb dX0_assign_35 rfl (lv_at hl 1 rfl) ?_
      refine lv_iload_n hx hb dX0_assign_36 rfl (lv_at hl 3 rfl) ?_
      refine lv_if_eq (tgt := 47) hx hb dX0_assign_37 (by decide) (fun hc37 => ?_) (fun hc37 => ?_)
      · refine lv_iload_n hx hb dX0_assign_47 rfl (lv_at hl 2 rfl) ?_
        refine xc_s (As := [.int (nI v)]) (rest := [.ref (q 0)]) ⟨hx, hb, hml, hown, hts⟩ (kX0_negative l (nI v)) (va_cwS 1 hts (gd_S bw_100 bw_101 bw_1 bw_102) rfl rfl rfl (by decide +kernel) ⟨Nat.le_of_ble_eq_true rfl, Nat.le_of_ble_eq_true rfl⟩) rfl hl.1 rfl (Nat.le_of_ble_eq_true rfl) dX0_assign_48 ⟨Nat.zero_le _, Nat.zero_le _⟩ ?_
        refine xc_wv (As := [.int (k_neg (nI v))]) (rest := []) ⟨hx, hb, hml, hown, hts⟩ (kX0_makeTrue l D q cA S hok (k_neg (nI v)) _) (cwV 1 hts (gd_V bw_76 bw_77 bw_412 bw_1 bw_78) rfl rfl rfl (by decide +kernel) ⟨Nat.le_of_ble_eq_true rfl, Nat.le_of_ble_eq_true rfl⟩) (va_recv (ci := 0) (q0 := 0) hK hP rfl rfl) hP hK hD hS hA rfl hl.1 rfl (Nat.le_of_ble_eq_true rfl) dX0_assign_51 ⟨Nat.zero_le _, Nat.zero_le _⟩ (fun u5 H locs hu5 hP hD hS => ?_)
        refine lv_iload_n hx hb dX0_assign_54 rfl (lv_at hl 0 rfl) ?_
        have hpo : 1 = k_b (decide (¬ xt S &&& k_pos (nI v) = 0)) ∧ u5 = (xk (xd S) (k_mt (xt S) (if b = 0 then k_neg (nI v) else k_pos (nI v))) (xn S) (xm S) (xh S) (xg S) (xse S) (xnu S) (xes S) (xel S) (xgi S) (xre S)) := ⟨by simp [k_b, hc26], by rw [hu5]; simp [k_mt, hc37]⟩
        exact W.zret (v := 1) hx hb hr (by rfl) (fun t ht hW => ⟨⟨1, u5, rfl, hpo, by rw [ht]; exact hP, va_K.moved hW.alike hK, hD⟩, hS.F ht⟩) hS.2.2 dX0_assign_55
      · refine lv_iload_n hx hb dX0_assign_40 rfl (lv_at hl 2 rfl) ?_
        refine xc_s (As := [.int (nI v)]) (rest := [.ref (q 0)]) ⟨hx, hb, hml, hown, hts⟩ (kX0_positive l (nI v)) (va_cwS 1 hts (gd_S bw_54 bw_55 bw_1 bw_56) rfl rfl rfl (by decide +kernel) ⟨Nat.le_of_ble_eq_true rfl, Nat.le_of_ble_eq_true rfl⟩) rfl hl.1 rfl (Nat.le_of_ble_eq_true rfl) dX0_assign_41 ⟨Nat.zero_le _, Nat.zero_le _⟩ ?_
        refine lv_goto (tgt := 51) hx hb dX0_assign_44 (by decide) ?_
        refine xc_wv (As := [.int (k_pos (nI v))]) (rest := []) ⟨hx, hb, hml, hown, hts⟩ (kX0_makeTrue l D q cA S hok (k_pos (nI v)) _) (cwV 1 hts (gd_V bw_76 bw_77 bw_412 bw_1 bw_78) rfl rfl rfl (by decide +kernel) ⟨Nat.le_of_ble_eq_true rfl, Nat.le_of_ble_eq_true rfl⟩) (va_recv (ci := 0) (q0 := 0) hK hP rfl rfl) hP hK hD hS hA rfl hl.1 rfl (Nat.le_of_ble_eq_true rfl) dX0_assign_51 ⟨Nat.zero_le _, Nat.zero_le _⟩ (fun u7 H locs hu7 hP hD hS => ?_)
        refine lv_iload_n hx hb dX0_assign_54 rfl (lv_at hl 0 rfl) ?_
        have hpo : 1 = k_b (decide (¬ xt S &&& k_pos (nI v) = 0)) ∧ u7 = (xk (xd S) (k_mt (xt S) (if b = 0 then k_neg (nI v) else k_pos (nI v))) (xn S) (xm S) (xh S) (xg S) (xse S) (xnu S) (xes S) (xel S) (xgi S) (xre S)) := ⟨by simp [k_b, hc26], by rw [hu7]; simp [k_mt, hc37]⟩
        exact W.zret (v := 1) hx hb hr (by rfl) (fun t ht hW => ⟨⟨1, u7, rfl, hpo, by rw [ht]; exact hP, va_K.moved hW.alike hK, hD⟩, hS.F ht⟩) hS.2.2 dX0_assign_55
  · exact absurd (kb_0.mp hc4) (by rw [isV_nI v (by omega) h1]; decide)

set_option maxHeartbeats 4000000 in
set_option maxRecDepth 100000 in
theorem kX0_literal (l : Launch) (D : va_G) (q : Nat → Nat) (cA : ClassId) (S : XS) (hok : okX S) (x : Int32) (h9 : k_isL x = true) (sz : Nat) : xw_Mi l yX0_literal wsX0_literal ({ frames := 1, cells := 0, slots := 0, locals := 20 }) D vwCl [(cA, .int)] [.ref (q 0), .int x] (wX q cA S) sz (fun (r : Int32) (u : XS) => r = k_bc (xd S ||| k_lit x) ∧ u = (xk (xd S ||| k_lit x) (xt S) (xn S) (xm S) (xh S) (xg S) (xse S) (xnu S) (xes S) (xel S) (xgi S) (xre S))) (wX q cA) := by
  refine Met.ofW (cc := cX0_literal) (maxL := 2) (ret := (some .int)) (by decide) rfl ?_
  intro p e s m args below meth c s₁ B hml hv
  obtain ⟨rfl, hsz, hP, hK, hD0⟩ := hv
  subst hsz
  have hD := hD0.self (sz := s.heap.size)
  have hA : ∀ z, s.heap.size ≤ z → va_A (wX q cA S) s.heap.size z := fun z h => Or.inr h
  have hS : va_S (va_A (wX q cA S) s.heap.size) s.heap s.heap [] := va_S.rf
  obtain ⟨hn40, hh200, hg100⟩ := id hok
  have hx := B.exec
  have hb := B.bytes
  have hr := B.returns
  have hts := atoms_spec (ws := wsX0_literal) B.pre
  have hown : s.vm.findClass RX0 = some m.cls := findClass_of_methodNamed B.named
  have hlocks := B.notSynchronized
  have hinX0 : ∀ w ∈ u_ws RX0 TX0 12, w ∈ wsX0_literal := fun w h => List.mem_cons_of_mem _ (bw_X0 w h)
  have hf39 := hts _ (List.mem_cons_of_mem _ bw_19)
  have hl := lv_entry ([.ref (q 0), .int x]) (n := 2) (Nat.le_of_ble_eq_true rfl)
  rw [lg_entry_eq]
  generalize (lg_sl ([.ref (q 0), .int x]) ++ List.replicate (2 - (lg_sl ([.ref (q 0), .int x])).length) Slot.unset).toArray = ls at hl ⊢
  have hl : lv_has ls 2 [(0, .ref (q 0)), (1, .int x)] := hl
  refine lv_iload_n hx hb dX0_literal_0 rfl (lv_at hl 1 rfl) ?_
  refine xc_s (As := [.int x]) (rest := []) ⟨hx, hb, hml, hown, hts⟩ (kX0_isLiteral l x) (va_cwS 1 hts (gd_S bw_94 bw_95 bw_1 bw_96) rfl rfl rfl (by decide +kernel) ⟨Nat.le_of_ble_eq_true rfl, Nat.le_of_ble_eq_true rfl⟩) rfl hl.1 rfl (Nat.le_of_ble_eq_true rfl) dX0_literal_1 ⟨Nat.zero_le _, Nat.zero_le _⟩ ?_
  refine lv_if_ne (tgt := 17) hx hb dX0_literal_4 (by decide) (fun hc4 => ?_) (fun hc4 => ?_)
  · refine lv_aload_n hx hb dX0_literal_17 rfl (lv_at hl 0 rfl) ?_
    refine lv_dup hx hb dX0_literal_18 rfl ?_
    refine va_get (v := .int (xd S)) hx hb hts hinX0 hown hK hP 0 rfl rfl 0 (by decide) hf39 (fun _ h9 => h9) rfl dX0_literal_19 ?_
    refine lv_iload_n hx hb dX0_literal_22 rfl (lv_at hl 1 rfl) ?_
    refine lv_if_le (tgt := 33) hx hb dX0_literal_23 (by decide) (fun hc23 => ?_) (fun hc23 => ?_)
    · refine lv_iload_n hx hb dX0_literal_33 rfl (lv_at hl 1 rfl) ?_
      refine lv_ineg hx hb dX0_literal_34 ?_
      refine xc_s (As := [.int (-x)]) (rest := [.int (xd S), .ref (q 0)]) ⟨hx, hb, hml, hown, hts⟩ (kX0_negative l (-x)) (va_cwS 1 hts (gd_S bw_100 bw_101 bw_1 bw_102) rfl rfl rfl (by decide +kernel) ⟨Nat.le_of_ble_eq_true rfl, Nat.le_of_ble_eq_true rfl⟩) rfl hl.1 rfl (Nat.le_of_ble_eq_true rfl) dX0_literal_35 ⟨Nat.zero_le _, Nat.zero_le _⟩ ?_
      refine lv_ior hx hb dX0_literal_38 ?_
      refine va_put (v := .int ((xd S) ||| (k_neg (-x)))) (ty := .int) hx hb hts hinX0 tyX0 tyX0_ok nmX0 hown hK hP hD hS 0 rfl rfl 0 (by decide) hf39 (fun _ h9 => h9) rfl (by decide +kernel) rfl rfl (Nat.le_of_ble_eq_true rfl) dX0_literal_39 (fun H locs hP hD hS => ?_)
      have hP : va_P D vwCl (wX q cA (xk ((xd S) ||| (k_neg (-x))) (xt S) (xn S) (xm S) (xh S) (xg S) (xse S) (xnu S) (xes S) (xel S) (xgi S) (xre S))) H := hP
      have hD : va_D _ (wX q cA (xk ((xd S) ||| (k_neg (-x))) (xt S) (xn S) (xm S) (xh S) (xg S) (xse S) (xnu S) (xes S) (xel S) (xgi S) (xre S))) := hD
      refine lv_aload_n hx hb dX0_literal_42 rfl (lv_at hl 0 rfl) ?_
      refine va_get (v := .int ((xd S) ||| (k_neg (-x)))) hx hb hts hinX0 hown hK hP 0 rfl rfl 0 (by decide) hf39 (fun _ h9 => h9) rfl dX0_literal_43 ?_
      refine xc_s (As := [.int ((xd S) ||| (k_neg (-x)))]) (rest := []) ⟨hx, hb, hml, hown, hts⟩ (kJ6_bitCount l ((xd S) ||| (k_neg (-x)))) (va_cwS 1 hts (gd_S bw_103 bw_104 bw_7 bw_105) rfl rfl rfl (by decide +kernel) ⟨Nat.le_of_ble_eq_true rfl, Nat.le_of_ble_eq_true rfl⟩) rfl hl.1 rfl (Nat.le_of_ble_eq_true rfl) dX0_literal_46 ⟨Nat.zero_le _, Nat.zero_le _⟩ ?_
      have hpo : k_bc ((xd S) ||| (k_neg (-x))) = k_bc (xd S ||| k_lit x) ∧ (xk ((xd S) ||| (k_neg (-x))) (xt S) (xn S) (xm S) (xh S) (xg S) (xse S) (xnu S) (xes S) (xel S) (xgi S) (xre S)) = (xk (xd S ||| k_lit x) (xt S) (xn S) (xm S) (xh S) (xg S) (xse S) (xnu S) (xes S) (xel S) (xgi S) (xre S)) := ⟨by simp [k_lit, hc23], by simp [k_lit, hc23]⟩
      exact W.iret (v := (k_bc ((xd S) ||| (k_neg (-x))))) hx hb hr (fun t ht hW => ⟨⟨(k_bc ((xd S) ||| (k_neg (-x)))), (xk ((xd S) ||| (k_neg (-x))) (xt S) (xn S) (xm S) (xh S) (xg S) (xse S) (xnu S) (xes S) (xel S) (xgi S) (xre S)), rfl, hpo, by rw [ht]; exact hP, va_K.moved hW.alike hK, hD⟩, hS.F ht⟩) hS.2.2 dX0_literal_49
    · refine lv_iload_n hx hb dX0_literal_26 rfl (lv_at hl 1 rfl) ?_
      refine xc_s (As := [.int x]) (rest := [.int (xd S), .ref (q 0)]) ⟨hx, hb, hml, hown, hts⟩ (kX0_positive l x) (va_cwS 1 hts (gd_S bw_54 bw_55 bw_1 bw_56) rfl rfl rfl (by decide +kernel) ⟨Nat.le_of_ble_eq_true rfl, Nat.le_of_ble_eq_true rfl⟩) rfl hl.1 rfl (Nat.le_of_ble_eq_true rfl) dX0_literal_27 ⟨Nat.zero_le _, Nat.zero_le _⟩ ?_
      refine lv_goto (tgt := 38) hx hb dX0_literal_30 (by decide) ?_
      refine lv_ior hx hb dX0_literal_38 ?_
      refine va_put (v := .int ((xd S) ||| (k_pos x))) (ty := .int) hx hb hts hinX0 tyX0 tyX0_ok nmX0 hown hK hP hD hS 0 rfl rfl 0 (by decide) hf39 (fun _ h9 => h9) rfl (by decide +kernel) rfl rfl (Nat.le_of_ble_eq_true rfl) dX0_literal_39 (fun H locs hP hD hS => ?_)
      have hP : va_P D vwCl (wX q cA (xk ((xd S) ||| (k_pos x)) (xt S) (xn S) (xm S) (xh S) (xg S) (xse S) (xnu S) (xes S) (xel S) (xgi S) (xre S))) H := hP
      have hD : va_D _ (wX q cA (xk ((xd S) ||| (k_pos x)) (xt S) (xn S) (xm S) (xh S) (xg S) (xse S) (xnu S) (xes S) (xel S) (xgi S) (xre S))) := hD
      refine lv_aload_n hx hb dX0_literal_42 rfl (lv_at hl 0 rfl) ?_
      refine va_get (v := .int ((xd S) ||| (k_pos x))) hx hb hts hinX0 hown hK hP 0 rfl rfl 0 (by decide) hf39 (fun _ h9 => h9) rfl dX0_literal_43 ?_
      refine xc_s (As := [.int ((xd S) ||| (k_pos x))]) (rest := []) ⟨hx, hb, hml, hown, hts⟩ (kJ6_bitCount l ((xd S) ||| (k_pos x))) (va_cwS 1 hts (gd_S bw_103 bw_104 bw_7 bw_105) rfl rfl rfl (by decide +kernel) ⟨Nat.le_of_ble_eq_true rfl, Nat.le_of_ble_eq_true rfl⟩) rfl hl.1 rfl (Nat.le_of_ble_eq_true rfl) dX0_literal_46 ⟨Nat.zero_le _, Nat.zero_le _⟩ ?_
      have hpo : k_bc ((xd S) ||| (k_pos x)) = k_bc (xd S ||| k_lit x) ∧ (xk ((xd S) ||| (k_pos x)) (xt S) (xn S) (xm S) (xh S) (xg S) (xse S) (xnu S) (xes S) (xel S) (xgi S) (xre S)) = (xk (xd S ||| k_lit x) (xt S) (xn S) (xm S) (xh S) (xg S) (xse S) (xnu S) (xes S) (xel S) (xgi S) (xre S)) := ⟨by simp [k_lit, hc23], by simp [k_lit, hc23]⟩
      exact W.iret (v := (k_bc ((xd S) ||| (k_pos x)))) hx hb hr (fun t ht hW => ⟨⟨(k_bc ((xd S) ||| (k_pos x))), (xk ((xd S) ||| (k_pos x)) (xt S) (xn S) (xm S) (xh S) (xg S) (xse S) (xnu S) (xes S) (xel S) (xgi S) (xre S)), rfl, hpo, by rw [ht]; exact hP, va_K.moved hW.alike hK, hD⟩, hS.F ht⟩) hS.2.2 dX0_literal_49
  · exact absurd (kb_0.mp hc4) (by rw [h9]; decide)

set_option maxHeartbeats 4000000 in
set_option maxRecDepth 100000 in
theorem kX0_extend (l : Launch) (D : va_G) (q : Nat → Nat) (cA : ClassId) (S : XS) (hok : okX S)  (sz : Nat) : xw_Mi l yX0_extend wsX0_extend ({ frames := 1, cells := 0, slots := 0, locals := 21 }) D vwCl [(cA, .int)] [.ref (q 0)] (wX q cA S) sz (fun (r : Int32) (u : XS) => r = nI (q_ext (vXT S) (xh S) (xt S) 0).1 ∧ u = (xk (xd S) ((q_ext (vXT S) (xh S) (xt S) 0).2) (xn S) (xm S) (xh S) (xg S) (xse S) (xnu S) (xes S) (xel S) (xgi S) (xre S))) (wX q cA) := by
  refine Met.ofW (cc := cX0_extend) (maxL := 3) (ret := (some .int)) (by decide) rfl ?_
  intro p e s m args below meth c s₁ B hml hv
  obtain ⟨rfl, hsz, hP, hK, hD0⟩ := hv
  subst hsz
  have hD := hD0.self (sz := s.heap.size)
  have hA : ∀ z, s.heap.size ≤ z → va_A (wX q cA S) s.heap.size z := fun z h => Or.inr h
  have hS : va_S (va_A (wX q cA S) s.heap.size) s.heap s.heap [] := va_S.rf
  obtain ⟨hn40, hh200, hg100⟩ := id hok
  have hx := B.exec
  have hb := B.bytes
  have hr := B.returns
  have hts := atoms_spec (ws := wsX0_extend) B.pre
  have hown : s.vm.findClass RX0 = some m.cls := findClass_of_methodNamed B.named
  have hlocks := B.notSynchronized
  have hinX0 : ∀ w ∈ u_ws RX0 TX0 12, w ∈ wsX0_extend := fun w h => List.mem_cons_of_mem _ (bw_X0 w h)
  have hf16 := hts _ (List.mem_cons_of_mem _ bw_25)
  have hf19 := hts _ (List.mem_cons_of_mem _ bw_26)
  have hf149 := hts _ (List.mem_cons_of_mem _ bw_27)
  have hf184 := hts _ (List.mem_cons_of_mem _ bw_20)
  have hl := lv_entry ([.ref (q 0)]) (n := 3) (Nat.le_of_ble_eq_true rfl)
  rw [lg_entry_eq]
  generalize (lg_sl ([.ref (q 0)]) ++ List.replicate (3 - (lg_sl ([.ref (q 0)])).length) Slot.unset).toArray = ls at hl ⊢
  have hl : lv_has ls 3 [(0, .ref (q 0))] := hl
  refine lv_iconst (v := 0) hx hb dX0_extend_0 (by decide) ?_
  refine lv_istore_n (lv' := [(1, .int 0), (0, .ref (q 0))]) hx hb dX0_extend_1 rfl hl (by decide) rfl (fun ls hl => ?_)
  refine lv_aload_n hx hb dX0_extend_2 rfl (lv_at hl 1 rfl) ?_
  refine va_get (v := .int (nI (xh S))) hx hb hts hinX0 hown hK hP 0 rfl rfl 8 (by decide) hf149 (fun _ h9 => h9) rfl dX0_extend_3 ?_
  refine lv_iconst (v := 1) hx hb dX0_extend_6 (by decide) ?_
  refine xi_dec hx hb dX0_extend_7 ?_
  refine lv_istore_n (lv' := [(2, .int (nP (xh S))), (1, .int 0), (0, .ref (q 0))]) hx hb dX0_extend_8 rfl hl (by decide) rfl (fun ls hl => ?_)
  refine wlw (σ := Nat × Nat × Int32) (fun (x9 : Nat × Nat × Int32) (H : Heap) (locs : List Loc) ls => match x9 with | (j, a, t9) => lv_has ls 3 [(2, .int (nP j)), (1, .int (nI a)), (0, .ref (q 0))] ∧ va_P D vwCl (wX q cA (xk (xd S) t9 (xn S) (xm S) (xh S) (xg S) (xse S) (xnu S) (xes S) (xel S) (xgi S) (xre S))) H ∧ va_D (va_A (wX q cA S) s.heap.size) (wX q cA (xk (xd S) t9 (xn S) (xm S) (xh S) (xg S) (xse S) (xnu S) (xes S) (xel S) (xgi S) (xre S))) ∧ va_S (va_A (wX q cA S) s.heap.size) s.heap H locs ∧ j ≤ xh S ∧ a + j ≤ xh S ∧ q_ext (vXT S) (xh S) (xt S) 0 = q_ext (vXT S) j t9 a) (fun (x9 : Nat × Nat × Int32) => match x9 with | (j, a, t9) => j) (xh S, 0, xt S) ⟨lv_sub hl [0, 1, 2] rfl, hP, hD, hS, (Nat.le_refl _), (by omega), rfl⟩ ?_
  intro x9 H locs ls hI ih9
  obtain ⟨j, a, t9⟩ := x9
  obtain ⟨hl, hP, hD, hS, hj, ha, hq⟩ := hI
  have hl : lv_has ls 3 [(2, .int (nP j)), (1, .int (nI a)), (0, .ref (q 0))] := hl
  refine lv_iload_n hx hb dX0_extend_9 rfl (lv_at hl 0 rfl) ?_
  refine lv_if_lt (tgt := 49) hx hb dX0_extend_10 (by decide) (fun hc10 => ?_) (fun hc10 => ?_)
  · have hj0 : j = 0 := (nP_lt0 (by omega)).mp hc10
    refine lv_iload_n hx hb dX0_extend_49 rfl (lv_at hl 1 rfl) ?_
    have hpo : nI a = nI (q_ext (vXT S) (xh S) (xt S) 0).1 ∧ (xk (xd S) t9 (xn S) (xm S) (xh S) (xg S) (xse S) (xnu S) (xes S) (xel S) (xgi S) (xre S)) = (xk (xd S) ((q_ext (vXT S) (xh S) (xt S) 0).2) (xn S) (xm S) (xh S) (xg S) (xse S) (xnu S) (xes S) (xel S) (xgi S) (xre S)) := ⟨by rw [hq, hj0]; rfl, by rw [hq, hj0]; rfl⟩
    exact W.iret (v := (nI a)) hx hb hr (fun t ht hW => ⟨⟨(nI a), (xk (xd S) t9 (xn S) (xm S) (xh S) (xg S) (xse S) (xnu S) (xes S) (xel S) (xgi S) (xre S)), rfl, hpo, by rw [ht]; exact hP, va_K.moved hW.alike hK, hD⟩, hS.F ht⟩) hS.2.2 dX0_extend_50
  · obtain ⟨i, rfl⟩ : ∃ i, j = i + 1 := ⟨j - 1, by have z : ¬ j = 0 := fun z => hc10 ((nP_lt0 (by omega)).mpr z); omega⟩
    have hl : lv_has ls 3 [(2, .int (nI i)), (1, .int (nI a)), (0, .ref (q 0))] := by rw [nP_s] at hl; exact hl
    have hs : q_set (vXT S) i = xes S i := q_set_of (by omega)
    have hl9 : q_num (vXT S) i = xel S i := q_num_of (by omega)
    refine lv_aload_n hx hb dX0_extend_13 rfl (lv_at hl 2 rfl) ?_
    refine va_get (v := .ref (q 3)) hx hb hts hinX0 hown hK hP 0 rfl rfl 6 (by decide) hf16 (fun _ h9 => h9) rfl dX0_extend_14 ?_
    refine lv_iload_n hx hb dX0_extend_17 rfl (lv_at hl 0 rfl) ?_
    refine xa_ld hx hb hK hP 3 0 rfl rfl i (by omega) (by first | decide | assumption) dX0_extend_18 ?_
    refine lv_aload_n hx hb dX0_extend_19 rfl (lv_at hl 2 rfl) ?_
    refine va_get (v := .int t9) hx hb hts hinX0 hown hK hP 0 rfl rfl 1 (by decide) hf184 (fun _ h9 => h9) rfl dX0_extend_20 ?_
    refine xc_s (As := [.int t9]) (rest := [.int ((xes S) i)]) ⟨hx, hb, hml, hown, hts⟩ (kX0_trueLiterals l t9) (va_cwS 1 hts (gd_S bw_48 bw_49 bw_1 bw_50) rfl rfl rfl (by decide +kernel) ⟨Nat.le_of_ble_eq_true rfl, Nat.le_of_ble_eq_true rfl⟩) rfl hl.1 rfl (Nat.le_of_ble_eq_true rfl) dX0_extend_23 ⟨Nat.zero_le _, Nat.zero_le _⟩ ?_
    refine lv_iand hx hb dX0_extend_26 ?_
    refine lv_if_ne (tgt := 43) hx hb dX0_extend_27 (by decide) (fun hc27 => ?_) (fun hc27 => ?_)
    · refine lv_iinc (k := 0) (v := nP i) (lv' := [(2, .int (nP i)), (1, .int (nI a)), (0, .ref (q 0))]) hx hb dX0_extend_43 hl rfl (ii_p _) (by decide) rfl (fun ls hl => ?_)
      refine lv_goto (tgt := 9) hx hb dX0_extend_46 (by decide) ?_
      exact ih9 (i, a, t9) _ _ _ ⟨lv_sub hl [0, 1, 2] rfl, hP, hD, hS, (by omega), (by omega), (by rw [hq, ext_f (by rw [hs]; exact hc27)])⟩ (by show i < i + 1; omega)
    · refine lv_aload_n hx hb dX0_extend_30 rfl (lv_at hl 2 rfl) ?_
      refine lv_aload_n hx hb dX0_extend_31 rfl (lv_at hl 2 rfl) ?_
      refine va_get (v := .ref (q 4)) hx hb hts hinX0 hown hK hP 0 rfl rfl 7 (by decide) hf19 (fun _ h9 => h9) rfl dX0_extend_32 ?_
      refine lv_iload_n hx hb dX0_extend_35 rfl (lv_at hl 0 rfl) ?_
      refine xa_ld hx hb hK hP 4 0 rfl rfl i (by omega) (by first | decide | assumption) dX0_extend_36 ?_
      refine xc_wv (As := [.int ((xel S) i)]) (rest := []) ⟨hx, hb, hml, hown, hts⟩ (kX0_makeTrue l D q cA (xk (xd S) t9 (xn S) (xm S) (xh S) (xg S) (xse S) (xnu S) (xes S) (xel S) (xgi S) (xre S)) ⟨hn40, hh200, hg100⟩ ((xel S) i) _) (cwV 1 hts (gd_V bw_76 bw_77 bw_412 bw_1 bw_78) rfl rfl rfl (by decide +kernel) ⟨Nat.le_of_ble_eq_true rfl, Nat.le_of_ble_eq_true rfl⟩) (va_recv (ci := 0) (q0 := 0) hK hP rfl rfl) hP hK hD hS hA rfl hl.1 rfl (Nat.le_of_ble_eq_true rfl) dX0_extend_37 ⟨Nat.zero_le _, Nat.zero_le _⟩ (fun u1 H locs hu1 hP hD hS => ?_)
      have hP : va_P D vwCl (wX q cA (xk (xd S) (k_mt t9 (xel S i)) (xn S) (xm S) (xh S) (xg S) (xse S) (xnu S) (xes S) (xel S) (xgi S) (xre S))) H := by rw [hu1] at hP; exact hP
      have hD : va_D (va_A (wX q cA S) s.heap.size) (wX q cA (xk (xd S) (k_mt t9 (xel S i)) (xn S) (xm S) (xh S) (xg S) (xse S) (xnu S) (xes S) (xel S) (xgi S) (xre S))) := by rw [hu1] at hD; exact hD
      refine lv_iinc (k := 1) (v := nI (a + 1)) (lv' := [(1, .int (nI (a + 1))), (2, .int (nI i)), (0, .ref (q 0))]) hx hb dX0_extend_40 hl rfl (ii_1 _) (by decide) rfl (fun ls hl => ?_)
      refine lv_iinc (k := 1) (v := nP i) (lv' := [(2, .int (nP i)), (1, .int (nI (a + 1))), (0, .ref (q 0))]) hx hb dX0_extend_43 hl rfl (ii_p _) (by decide) rfl (fun ls hl => ?_)
      refine lv_goto (tgt := 9) hx hb dX0_extend_46 (by decide) ?_
      exact ih9 (i, a + 1, k_mt t9 (xel S i)) _ _ _ ⟨lv_sub hl [0, 1, 2] rfl, hP, hD, hS, (by omega), (by omega), (by rw [hq, ext_t (by rw [hs]; exact hc27), hl9])⟩ (by show i < i + 1; omega)
