/-! The class: gathering and pushing. -/
set_option maxHeartbeats 4000000 in
set_option maxRecDepth 100000 in
theorem kX0_gatherResolventsOf (l : Launch) (D : va_G) (q : Nat → Nat) (cA : ClassId) (S : XS) (hok : okX S) (x v : Int32) (RR : List Int32) (most : Nat) (hRR : cl_lst RR.length (xre S) = RR) (hm : RR.length ≤ most) (hmost : most ≤ 40) (sz : Nat) : xw_Mi l yX0_gatherResolventsOf wsX0_gatherResolventsOf ({ frames := 2, cells := 0, slots := 0, locals := 44 }) D vwCl [(cA, .int)] [.ref (q 0), .int x, .int v, .int (nI RR.length), .int (nI most)] (wX q cA S) sz (fun (r : Int32) (f : Nat → Int32) => q_post (q_g1 (vXL S) x v most (xn S) 0 RR) most r f) (fun f => wX q cA (xk (xd S) (xt S) (xn S) (xm S) (xh S) (xg S) (xse S) (xnu S) (xes S) (xel S) (xgi S) f)) := by
  refine Met.ofW (cc := cX0_gatherResolventsOf) (maxL := 8) (ret := (some .int)) (by decide) rfl ?_
  intro p e s m args below meth c s₁ B hml hv
  obtain ⟨rfl, hsz, hP, hK, hD0⟩ := hv
  subst hsz
  have hD := hD0.self (sz := s.heap.size)
  have hA : ∀ z, s.heap.size ≤ z → va_A (wX q cA S) s.heap.size z := fun z h => Or.inr h
  have hS : va_S (va_A (wX q cA S) s.heap.size) s.heap s.heap [] := va_S.rf
  obtain ⟨hn40, hh200, hg100⟩ := id hok
  have hx := B.exec
  have hb := B.bytes
  have hr := B.returns
  have hts := atoms_spec (ws := wsX0_gatherResolventsOf) B.pre
  have hown : s.vm.findClass RX0 = some m.cls := findClass_of_methodNamed B.named
  have hlocks := B.notSynchronized
  have hinX0 : ∀ w ∈ u_ws RX0 TX0 12, w ∈ wsX0_gatherResolventsOf := fun w h => List.mem_cons_of_mem _ (bw_X0 w h)
  have hf9 := hts _ (List.mem_cons_of_mem _ bw_21)
  have hf25 := hts _ (List.mem_cons_of_mem _ bw_30)
  have hf58 := hts _ (List.mem_cons_of_mem _ bw_23)
  have hl := lv_entry ([.ref (q 0), .int x, .int v, .int (nI RR.length), .int (nI most)]) (n := 8) (Nat.le_of_ble_eq_true rfl)
  rw [lg_entry_eq]
  generalize (lg_sl ([.ref (q 0), .int x, .int v, .int (nI RR.length), .int (nI most)]) ++ List.replicate (8 - (lg_sl ([.ref (q 0), .int x, .int v, .int (nI RR.length), .int (nI most)])).length) Slot.unset).toArray = ls at hl ⊢
  have hl : lv_has ls 8 [(0, .ref (q 0)), (1, .int x), (2, .int v), (3, .int (nI RR.length)), (4, .int (nI most))] := hl
  refine lv_iload_n hx hb dX0_gatherResolventsOf_0 rfl (lv_at hl 3 rfl) ?_
  refine lv_istore (lv' := [(5, .int (nI RR.length)), (0, .ref (q 0)), (1, .int x), (2, .int v), (3, .int (nI RR.length)), (4, .int (nI most))]) hx hb dX0_gatherResolventsOf_1 hl (by decide) rfl (fun ls hl => ?_)
  refine lv_iconst (v := 0) hx hb dX0_gatherResolventsOf_3 (by decide) ?_
  refine lv_istore (lv' := [(6, .int 0), (5, .int (nI RR.length)), (0, .ref (q 0)), (1, .int x), (2, .int v), (3, .int (nI RR.length)), (4, .int (nI most))]) hx hb dX0_gatherResolventsOf_4 hl (by decide) rfl (fun ls hl => ?_)
  refine wlw (σ := Nat × (List Int32) × (Nat → Int32)) (fun (x9 : Nat × (List Int32) × (Nat → Int32)) (H : Heap) (locs : List Loc) ls => match x9 with | (k, R, f) => lv_has ls 8 [(6, .int (nI k)), (5, .int (nI R.length)), (0, .ref (q 0)), (1, .int x), (2, .int v), (3, .int (nI RR.length)), (4, .int (nI most))] ∧ va_P D vwCl (wX q cA (xk (xd S) (xt S) (xn S) (xm S) (xh S) (xg S) (xse S) (xnu S) (xes S) (xel S) (xgi S) f)) H ∧ va_D (va_A (wX q cA S) s.heap.size) (wX q cA (xk (xd S) (xt S) (xn S) (xm S) (xh S) (xg S) (xse S) (xnu S) (xes S) (xel S) (xgi S) f)) ∧ va_S (va_A (wX q cA S) s.heap.size) s.heap H locs ∧ k ≤ xn S ∧ cl_lst R.length f = R ∧ R.length ≤ most ∧ q_g1 (vXL S) x v most (xn S - 0) 0 RR = q_g1 (vXL S) x v most (xn S - k) k R) (fun (x9 : Nat × (List Int32) × (Nat → Int32)) => match x9 with | (k, R, f) => xn S - k) (0, RR, xre S) ⟨lv_sub hl [0, 1, 2, 3, 4, 5, 6] rfl, hP, hD, hS, (Nat.zero_le _), hRR, hm, rfl⟩ ?_
  intro x9 H locs ls hI ih6
  obtain ⟨k, R, f⟩ := x9
  obtain ⟨hl, hP, hD, hS, hk, hR, hRm, hq⟩ := hI
  have hl : lv_has ls 8 [(6, .int (nI k)), (5, .int (nI R.length)), (0, .ref (q 0)), (1, .int x), (2, .int v), (3, .int (nI RR.length)), (4, .int (nI most))] := hl
  refine lv_iload hx hb dX0_gatherResolventsOf_6 (lv_at hl 0 rfl) ?_
  refine lv_aload_n hx hb dX0_gatherResolventsOf_8 rfl (lv_at hl 2 rfl) ?_
  refine va_get (v := .int (nI (xn S))) hx hb hts hinX0 hown hK hP 0 rfl rfl 4 (by decide) hf58 (fun _ h9 => h9) rfl dX0_gatherResolventsOf_9 ?_
  refine lv_icmp_ge (tgt := 104) hx hb dX0_gatherResolventsOf_12 (by decide) (fun hc12 => ?_) (fun hc12 => ?_)
  · have hge : xn S ≤ k := (nI_leI (by omega) (by omega)).mp hc12
    refine lv_iload hx hb dX0_gatherResolventsOf_104 (lv_at hl 1 rfl) ?_
    have hpo : q_post (q_g1 (vXL S) x v most (xn S) 0 RR) most (nI R.length) f := by
      show q_post (q_g1 (vXL S) x v most (xn S - 0) 0 RR) most (nI R.length) f
      rw [hq, g1_end hge]
      exact ⟨rfl, hR, hRm⟩
    exact W.iret (v := (nI R.length)) hx hb hr (fun t ht hW => ⟨⟨(nI R.length), f, rfl, hpo, by rw [ht]; exact hP, va_K.moved hW.alike hK, hD⟩, hS.F ht⟩) hS.2.2 dX0_gatherResolventsOf_106
  · have hlt : k < xn S := Nat.lt_of_not_le (fun z => hc12 ((nI_leI (by omega) (by omega)).mpr z))
    have hs : q_set (vXL S) k = xse S k := q_set_of hlt
    refine lv_aload_n hx hb dX0_gatherResolventsOf_15 rfl (lv_at hl 2 rfl) ?_
    refine va_get (v := .ref (q 1)) hx hb hts hinX0 hown hK hP 0 rfl rfl 2 (by decide) hf9 (fun _ h9 => h9) rfl dX0_gatherResolventsOf_16 ?_
    refine lv_iload hx hb dX0_gatherResolventsOf_19 (lv_at hl 0 rfl) ?_
    refine xa_ld hx hb hK hP 1 0 rfl rfl k (by omega) (by first | decide | assumption) dX0_gatherResolventsOf_21 ?_
    refine lv_iload_n hx hb dX0_gatherResolventsOf_22 rfl (lv_at hl 4 rfl) ?_
    refine xc_s (As := [.int v]) (rest := [.int ((xse S) k)]) ⟨hx, hb, hml, hown, hts⟩ (kX0_negative l v) (va_cwS 1 hts (gd_S bw_100 bw_101 bw_1 bw_102) rfl rfl rfl (by decide +kernel) ⟨Nat.le_of_ble_eq_true rfl, Nat.le_of_ble_eq_true rfl⟩) rfl hl.1 rfl (Nat.le_of_ble_eq_true rfl) dX0_gatherResolventsOf_23 ⟨Nat.zero_le _, Nat.zero_le _⟩ ?_
    refine lv_iand hx hb dX0_gatherResolventsOf_26 ?_
    refine lv_if_ne (tgt := 33) hx hb dX0_gatherResolventsOf_27 (by decide) (fun hc27 => ?_) (fun hc27 => ?_)
    · refine lv_iload_n hx hb dX0_gatherResolventsOf_33 rfl (lv_at hl 3 rfl) ?_
      refine lv_aload_n hx hb dX0_gatherResolventsOf_34 rfl (lv_at hl 2 rfl) ?_
      refine va_get (v := .ref (q 1)) hx hb hts hinX0 hown hK hP 0 rfl rfl 2 (by decide) hf9 (fun _ h9 => h9) rfl dX0_gatherResolventsOf_35 ?_
      refine lv_iload hx hb dX0_gatherResolventsOf_38 (lv_at hl 0 rfl) ?_
      refine xa_ld hx hb hK hP 1 0 rfl rfl k (by omega) (by first | decide | assumption) dX0_gatherResolventsOf_40 ?_
      refine lv_iload_n hx hb dX0_gatherResolventsOf_41 rfl (lv_at hl 4 rfl) ?_
      refine xc_s (As := [.int v]) (rest := [.int ((xse S) k), .int x]) ⟨hx, hb, hml, hown, hts⟩ (kX0_bothLiterals l v) (va_cwS 1 hts (gd_S bw_191 bw_192 bw_1 bw_193) rfl rfl rfl (by decide +kernel) ⟨Nat.le_of_ble_eq_true rfl, Nat.le_of_ble_eq_true rfl⟩) rfl hl.1 rfl (Nat.le_of_ble_eq_true rfl) dX0_gatherResolventsOf_42 ⟨Nat.zero_le _, Nat.zero_le _⟩ ?_
      refine xc_s (As := [.int x, .int ((xse S) k), .int (k_both v)]) (rest := []) ⟨hx, hb, hml, hown, hts⟩ (kX0_resolvent l x ((xse S) k) (k_both v)) (va_cwS 3 hts (gd_S bw_197 bw_198 bw_1 bw_199) rfl rfl rfl (by decide +kernel) ⟨Nat.le_of_ble_eq_true rfl, Nat.le_of_ble_eq_true rfl⟩) rfl hl.1 rfl (Nat.le_of_ble_eq_true rfl) dX0_gatherResolventsOf_45 ⟨Nat.zero_le _, Nat.zero_le _⟩ ?_
      refine lv_topi (fun w9 ew9 => ?_)
      refine lv_istore (lv' := [(7, .int w9), (6, .int (nI k)), (5, .int (nI R.length)), (0, .ref (q 0)), (1, .int x), (2, .int v), (3, .int (nI RR.length)), (4, .int (nI most))]) hx hb dX0_gatherResolventsOf_48 hl (by decide) rfl (fun ls hl => ?_)
      refine lv_aload_n hx hb dX0_gatherResolventsOf_50 rfl (lv_at hl 3 rfl) ?_
      refine lv_iload hx hb dX0_gatherResolventsOf_51 (lv_at hl 0 rfl) ?_
      refine xc_rv (As := [.int w9]) (rest := []) ⟨hx, hb, hml, hown, hts⟩ (kX0_canBeMade l D q cA (xk (xd S) (xt S) (xn S) (xm S) (xh S) (xg S) (xse S) (xnu S) (xes S) (xel S) (xgi S) f) ⟨hn40, hh200, hg100⟩ w9) (cwV 1 hts (gd_V bw_116 bw_117 bw_413 bw_1 bw_118) rfl rfl rfl (by decide +kernel) ⟨Nat.le_of_ble_eq_true rfl, Nat.le_of_ble_eq_true rfl⟩) (va_recv (ci := 0) (q0 := 0) hK hP rfl rfl) hP hK rfl hl.1 rfl (Nat.le_of_ble_eq_true rfl) dX0_gatherResolventsOf_53 ⟨Nat.zero_le _, Nat.zero_le _⟩ ?_
      refine lv_if_eq (tgt := 98) hx hb dX0_gatherResolventsOf_56 (by decide) (fun hc56 => ?_) (fun hc56 => ?_)
      · have hc56 : q_can (vXL S) w9 = false := kb_0.mp hc56
        refine lv_iinc (k := 1) (v := nI (k + 1)) (lv' := [(6, .int (nI (k + 1))), (7, .int w9), (5, .int (nI R.length)), (0, .ref (q 0)), (1, .int x), (2, .int v), (3, .int (nI RR.length)), (4, .int (nI most))]) hx hb dX0_gatherResolventsOf_98 hl rfl (ii_1 _) (by decide) rfl (fun ls hl => ?_)
        refine lv_goto (tgt := 6) hx hb dX0_gatherResolventsOf_101 (by decide) ?_
        exact ih6 (k + 1, R, f) _ _ _ ⟨lv_sub hl [0, 2, 3, 4, 5, 6, 7] rfl, hP, hD, hS, (by omega), hR, hRm, (by rw [hq, g1_not hlt (by rw [hs]; exact hc27) (by rw [hs, ← ew9]; exact fun z => absurd z.1 (by rw [hc56]; decide))])⟩ (by show xn S - (k + 1) < xn S - k; omega)
      · have hc56 : q_can (vXL S) w9 = true := kb_n0.mp hc56
        refine lv_aload_n hx hb dX0_gatherResolventsOf_59 rfl (lv_at hl 3 rfl) ?_
        refine va_get (v := .ref (q 6)) hx hb hts hinX0 hown hK hP 0 rfl rfl 11 (by decide) hf25 (fun _ h9 => h9) rfl dX0_gatherResolventsOf_60 ?_
        refine lv_iload hx hb dX0_gatherResolventsOf_63 (lv_at hl 2 rfl) ?_
        refine lv_iload hx hb dX0_gatherResolventsOf_65 (lv_at hl 0 rfl) ?_
        refine xc_rs (w0 := [(q 6, .inl (cA, 40, .inl f))]) (As := [.ref (q 6), .int (nI R.length), .int w9]) (rest := []) ⟨hx, hb, hml, hown, hts⟩ (kX0_find l D cA (q 6) 40 R.length f w9 (by omega) (by decide)) (va_cwS 3 hts (gd_S bw_122 bw_123 bw_1 bw_124) rfl rfl rfl (by decide +kernel) ⟨Nat.le_of_ble_eq_true rfl, Nat.le_of_ble_eq_true rfl⟩) (hP.sub [6] rfl) hK rfl hl.1 rfl (Nat.le_of_ble_eq_true rfl) dX0_gatherResolventsOf_67 ⟨Nat.zero_le _, Nat.zero_le _⟩ ?_
        refine lv_iconst (v := (-1)) hx hb dX0_gatherResolventsOf_70 (by decide) ?_
        refine lv_icmp_eq (tgt := 77) hx hb dX0_gatherResolventsOf_71 (by decide) (fun hc71 => ?_) (fun hc71 => ?_)
        · have hc71 : w9 ∉ R := (fd_m1 hR (by omega)).mp hc71
          refine lv_iload hx hb dX0_gatherResolventsOf_77 (lv_at hl 2 rfl) ?_
          refine lv_iload hx hb dX0_gatherResolventsOf_79 (lv_at hl 7 rfl) ?_
          refine lv_icmp_lt (tgt := 86) hx hb dX0_gatherResolventsOf_81 (by decide) (fun hc81 => ?_) (fun hc81 => ?_)
          · have hc81 : R.length < most := (nI_ltI (by omega) (by omega)).mp hc81
            refine lv_aload_n hx hb dX0_gatherResolventsOf_86 rfl (lv_at hl 3 rfl) ?_
            refine va_get (v := .ref (q 6)) hx hb hts hinX0 hown hK hP 0 rfl rfl 11 (by decide) hf25 (fun _ h9 => h9) rfl dX0_gatherResolventsOf_87 ?_
            refine lv_iload hx hb dX0_gatherResolventsOf_90 (lv_at hl 2 rfl) ?_
            refine lv_iload hx hb dX0_gatherResolventsOf_92 (lv_at hl 0 rfl) ?_
            refine xa_st hx hb hK hP hD hS 6 0 rfl rfl R.length (by omega) (by first | decide | assumption) dX0_gatherResolventsOf_94 (fun H locs hP hD hS => ?_)
            have hP : va_P D vwCl (wX q cA (xk (xd S) (xt S) (xn S) (xm S) (xh S) (xg S) (xse S) (xnu S) (xes S) (xel S) (xgi S) (upd f R.length w9))) H := hP
            have hD : va_D _ (wX q cA (xk (xd S) (xt S) (xn S) (xm S) (xh S) (xg S) (xse S) (xnu S) (xes S) (xel S) (xgi S) (upd f R.length w9))) := hD
            refine lv_iinc (k := 2) (v := nI (R.length + 1)) (lv' := [(5, .int (nI (R.length + 1))), (7, .int w9), (6, .int (nI k)), (0, .ref (q 0)), (1, .int x), (2, .int v), (3, .int (nI RR.length)), (4, .int (nI most))]) hx hb dX0_gatherResolventsOf_95 hl rfl (ii_1 _) (by decide) rfl (fun ls hl => ?_)
            have hl : lv_has ls 8 [(5, .int (nI (R ++ [w9]).length)), (7, .int w9), (6, .int (nI k)), (0, .ref (q 0)), (1, .int x), (2, .int v), (3, .int (nI RR.length)), (4, .int (nI most))] := by rw [List.length_append]; exact hl
            refine lv_iinc (k := 2) (v := nI (k + 1)) (lv' := [(6, .int (nI (k + 1))), (5, .int (nI (R ++ [w9]).length)), (7, .int w9), (0, .ref (q 0)), (1, .int x), (2, .int v), (3, .int (nI RR.length)), (4, .int (nI most))]) hx hb dX0_gatherResolventsOf_98 hl rfl (ii_1 _) (by decide) rfl (fun ls hl => ?_)
            refine lv_goto (tgt := 6) hx hb dX0_gatherResolventsOf_101 (by decide) ?_
            exact ih6 (k + 1, R ++ [w9], upd f R.length w9) _ _ _ ⟨lv_sub hl [0, 1, 3, 4, 5, 6, 7] rfl, hP, hD, hS, (by omega), (g_app hR), (by rw [List.length_append]; exact hc81), (by rw [hq, g1_add hlt (by rw [hs]; exact hc27) (by rw [hs, ← ew9]; exact ⟨hc56, hc71⟩) hc81, hs, ← ew9])⟩ (by show xn S - (k + 1) < xn S - k; omega)
          · have hc81 : ¬ R.length < most := fun z => hc81 ((nI_ltI (by omega) (by omega)).mpr z)
            refine lv_iconst (v := (-1)) hx hb dX0_gatherResolventsOf_84 (by decide) ?_
            have hpo : q_post (q_g1 (vXL S) x v most (xn S) 0 RR) most (-1) f := by
              show q_post (q_g1 (vXL S) x v most (xn S - 0) 0 RR) most (-1) f
              rw [hq, g1_full hlt (by rw [hs]; exact hc27) (by rw [hs, ← ew9]; exact ⟨hc56, hc71⟩) hc81]
              rfl
            exact W.iret (v := (-1)) hx hb hr (fun t ht hW => ⟨⟨(-1), f, rfl, hpo, by rw [ht]; exact hP, va_K.moved hW.alike hK, hD⟩, hS.F ht⟩) hS.2.2 dX0_gatherResolventsOf_85
        · have hc71 : ¬ w9 ∉ R := fun z => hc71 ((fd_m1 hR (by omega)).mpr z)
          refine lv_goto (tgt := 98) hx hb dX0_gatherResolventsOf_74 (by decide) ?_
          refine lv_iinc (k := 1) (v := nI (k + 1)) (lv' := [(6, .int (nI (k + 1))), (7, .int w9), (5, .int (nI R.length)), (0, .ref (q 0)), (1, .int x), (2, .int v), (3, .int (nI RR.length)), (4, .int (nI most))]) hx hb dX0_gatherResolventsOf_98 hl rfl (ii_1 _) (by decide) rfl (fun ls hl => ?_)
          refine lv_goto (tgt := 6) hx hb dX0_gatherResolventsOf_101 (by decide) ?_
          exact ih6 (k + 1, R, f) _ _ _ ⟨lv_sub hl [0, 2, 3, 4, 5, 6, 7] rfl, hP, hD, hS, (by omega), hR, hRm, (by rw [hq, g1_not hlt (by rw [hs]; exact hc27) (by rw [hs, ← ew9]; exact fun z => hc71 z.2)])⟩ (by show xn S - (k + 1) < xn S - k; omega)
    · refine lv_goto (tgt := 98) hx hb dX0_gatherResolventsOf_30 (by decide) ?_
      refine lv_iinc (k := 0) (v := nI (k + 1)) (lv' := [(6, .int (nI (k + 1))), (5, .int (nI R.length)), (0, .ref (q 0)), (1, .int x), (2, .int v), (3, .int (nI RR.length)), (4, .int (nI most))]) hx hb dX0_gatherResolventsOf_98 hl rfl (ii_1 _) (by decide) rfl (fun ls hl => ?_)
      refine lv_goto (tgt := 6) hx hb dX0_gatherResolventsOf_101 (by decide) ?_
      exact ih6 (k + 1, R, f) _ _ _ ⟨lv_sub hl [0, 1, 2, 3, 4, 5, 6] rfl, hP, hD, hS, (by omega), hR, hRm, (by rw [hq, g1_skip hlt (by rw [hs]; exact hc27)])⟩ (by show xn S - (k + 1) < xn S - k; omega)

set_option maxHeartbeats 4000000 in
set_option maxRecDepth 100000 in
theorem kX0_gatherResolvents (l : Launch) (D : va_G) (q : Nat → Nat) (cA : ClassId) (S : XS) (hok : okX S) (v : Int32) (sz : Nat) : xw_Mi l yX0_gatherResolvents wsX0_gatherResolvents ({ frames := 3, cells := 0, slots := 0, locals := 71 }) D vwCl [(cA, .int)] [.ref (q 0), .int v] (wX q cA S) sz (fun (r : Int32) (f : Nat → Int32) => q_post (q_g2 (vXL S) v (q_cw (vXL S) (k_both v)) (xn S) 0 []) (q_cw (vXL S) (k_both v)) r f) (fun f => wX q cA (xk (xd S) (xt S) (xn S) (xm S) (xh S) (xg S) (xse S) (xnu S) (xes S) (xel S) (xgi S) f)) := by
  refine Met.ofW (cc := cX0_gatherResolvents) (maxL := 5) (ret := (some .int)) (by decide) rfl ?_
  intro p e s m args below meth c s₁ B hml hv
  obtain ⟨rfl, hsz, hP, hK, hD0⟩ := hv
  subst hsz
  have hD := hD0.self (sz := s.heap.size)
  have hA : ∀ z, s.heap.size ≤ z → va_A (wX q cA S) s.heap.size z := fun z h => Or.inr h
  have hS : va_S (va_A (wX q cA S) s.heap.size) s.heap s.heap [] := va_S.rf
  obtain ⟨hn40, hh200, hg100⟩ := id hok
  have hM9 : (q_cw (vXL S) (k_both v)) ≤ 40 := by
    have z := q_cw_le (vXL S) (k_both v)
    rw [vXL_len] at z
    omega
  have hx := B.exec
  have hb := B.bytes
  have hr := B.returns
  have hts := atoms_spec (ws := wsX0_gatherResolvents) B.pre
  have hown : s.vm.findClass RX0 = some m.cls := findClass_of_methodNamed B.named
  have hlocks := B.notSynchronized
  have hinX0 : ∀ w ∈ u_ws RX0 TX0 12, w ∈ wsX0_gatherResolvents := fun w h => List.mem_cons_of_mem _ (bw_X0 w h)
  have hf9 := hts _ (List.mem_cons_of_mem _ bw_21)
  have hf58 := hts _ (List.mem_cons_of_mem _ bw_23)
  have hl := lv_entry ([.ref (q 0), .int v]) (n := 5) (Nat.le_of_ble_eq_true rfl)
  rw [lg_entry_eq]
  generalize (lg_sl ([.ref (q 0), .int v]) ++ List.replicate (5 - (lg_sl ([.ref (q 0), .int v])).length) Slot.unset).toArray = ls at hl ⊢
  have hl : lv_has ls 5 [(0, .ref (q 0)), (1, .int v)] := hl
  refine lv_aload_n hx hb dX0_gatherResolvents_0 rfl (lv_at hl 0 rfl) ?_
  refine lv_iload_n hx hb dX0_gatherResolvents_1 rfl (lv_at hl 1 rfl) ?_
  refine xc_s (As := [.int v]) (rest := [.ref (q 0)]) ⟨hx, hb, hml, hown, hts⟩ (kX0_bothLiterals l v) (va_cwS 1 hts (gd_S bw_191 bw_192 bw_1 bw_193) rfl rfl rfl (by decide +kernel) ⟨Nat.le_of_ble_eq_true rfl, Nat.le_of_ble_eq_true rfl⟩) rfl hl.1 rfl (Nat.le_of_ble_eq_true rfl) dX0_gatherResolvents_2 ⟨Nat.zero_le _, Nat.zero_le _⟩ ?_
  refine xc_rv (As := [.int (k_both v)]) (rest := []) ⟨hx, hb, hml, hown, hts⟩ (kX0_countWith l D q cA S hok (k_both v)) (cwV 1 hts (gd_V bw_212 bw_213 bw_431 bw_1 bw_214) rfl rfl rfl (by decide +kernel) ⟨Nat.le_of_ble_eq_true rfl, Nat.le_of_ble_eq_true rfl⟩) (va_recv (ci := 0) (q0 := 0) hK hP rfl rfl) hP hK rfl hl.1 rfl (Nat.le_of_ble_eq_true rfl) dX0_gatherResolvents_5 ⟨Nat.zero_le _, Nat.zero_le _⟩ ?_
  refine lv_istore_n (lv' := [(2, .int (nI (q_cw (vXL S) (k_both v)))), (0, .ref (q 0)), (1, .int v)]) hx hb dX0_gatherResolvents_8 rfl hl (by decide) rfl (fun ls hl => ?_)
  refine lv_iconst (v := 0) hx hb dX0_gatherResolvents_9 (by decide) ?_
  refine lv_istore_n (lv' := [(3, .int 0), (2, .int (nI (q_cw (vXL S) (k_both v)))), (0, .ref (q 0)), (1, .int v)]) hx hb dX0_gatherResolvents_10 rfl hl (by decide) rfl (fun ls hl => ?_)
  refine lv_iconst (v := 0) hx hb dX0_gatherResolvents_11 (by decide) ?_
  refine lv_istore (lv' := [(4, .int 0), (3, .int 0), (2, .int (nI (q_cw (vXL S) (k_both v)))), (0, .ref (q 0)), (1, .int v)]) hx hb dX0_gatherResolvents_12 hl (by decide) rfl (fun ls hl => ?_)
  refine wlw (σ := Nat × (List Int32) × (Nat → Int32)) (fun (x9 : Nat × (List Int32) × (Nat → Int32)) (H : Heap) (locs : List Loc) ls => match x9 with | (k, R, f) => lv_has ls 5 [(4, .int (nI k)), (3, .int (nI R.length)), (2, .int (nI (q_cw (vXL S) (k_both v)))), (0, .ref (q 0)), (1, .int v)] ∧ va_P D vwCl (wX q cA (xk (xd S) (xt S) (xn S) (xm S) (xh S) (xg S) (xse S) (xnu S) (xes S) (xel S) (xgi S) f)) H ∧ va_D (va_A (wX q cA S) s.heap.size) (wX q cA (xk (xd S) (xt S) (xn S) (xm S) (xh S) (xg S) (xse S) (xnu S) (xes S) (xel S) (xgi S) f)) ∧ va_S (va_A (wX q cA S) s.heap.size) s.heap H locs ∧ k ≤ xn S ∧ cl_lst R.length f = R ∧ R.length ≤ (q_cw (vXL S) (k_both v)) ∧ q_g2 (vXL S) v (q_cw (vXL S) (k_both v)) (xn S - 0) 0 [] = q_g2 (vXL S) v (q_cw (vXL S) (k_both v)) (xn S - k) k R) (fun (x9 : Nat × (List Int32) × (Nat → Int32)) => match x9 with | (k, R, f) => xn S - k) (0, [], xre S) ⟨lv_sub hl [0, 1, 2, 3, 4] rfl, hP, hD, hS, (Nat.zero_le _), rfl, (Nat.zero_le _), rfl⟩ ?_
  intro x9 H locs ls hI ih14
  obtain ⟨k, R, f⟩ := x9
  obtain ⟨hl, hP, hD, hS, hk, hR, hRm, hq⟩ := hI
  have hl : lv_has ls 5 [(4, .int (nI k)), (3, .int (nI R.length)), (2, .int (nI (q_cw (vXL S) (k_both v)))), (0, .ref (q 0)), (1, .int v)] := hl
  refine lv_iload hx hb dX0_gatherResolvents_14 (lv_at hl 0 rfl) ?_
  refine lv_aload_n hx hb dX0_gatherResolvents_16 rfl (lv_at hl 3 rfl) ?_
  refine va_get (v := .int (nI (xn S))) hx hb hts hinX0 hown hK hP 0 rfl rfl 4 (by decide) hf58 (fun _ h9 => h9) rfl dX0_gatherResolvents_17 ?_
  refine lv_icmp_ge (tgt := 66) hx hb dX0_gatherResolvents_20 (by decide) (fun hc20 => ?_) (fun hc20 => ?_)
  · have hge : xn S ≤ k := (nI_leI (by omega) (by omega)).mp hc20
    refine lv_iload_n hx hb dX0_gatherResolvents_66 rfl (lv_at hl 1 rfl) ?_
    have hpo : q_post (q_g2 (vXL S) v (q_cw (vXL S) (k_both v)) (xn S) 0 []) (q_cw (vXL S) (k_both v)) (nI R.length) f := by
      show q_post (q_g2 (vXL S) v (q_cw (vXL S) (k_both v)) (xn S - 0) 0 []) (q_cw (vXL S) (k_both v)) (nI R.length) f
      rw [hq, g2_end hge]
      exact ⟨rfl, hR, hRm⟩
    exact W.iret (v := (nI R.length)) hx hb hr (fun t ht hW => ⟨⟨(nI R.length), f, rfl, hpo, by rw [ht]; exact hP, va_K.moved hW.alike hK, hD⟩, hS.F ht⟩) hS.2.2 dX0_gatherResolvents_67
  · have hlt : k < xn S := Nat.lt_of_not_le (fun z => hc20 ((nI_leI (by omega) (by omega)).mpr z))
    have hs : q_set (vXL S) k = xse S k := q_set_of hlt
    refine lv_aload_n hx hb dX0_gatherResolvents_23 rfl (lv_at hl 3 rfl) ?_
    refine va_get (v := .ref (q 1)) hx hb hts hinX0 hown hK hP 0 rfl rfl 2 (by decide) hf9 (fun _ h9 => h9) rfl dX0_gatherResolvents_24 ?_
    refine lv_iload hx hb dX0_gatherResolvents_27 (lv_at hl 0 rfl) ?_
    refine xa_ld hx hb hK hP 1 0 rfl rfl k (by omega) (by first | decide | assumption) dX0_gatherResolvents_29 ?_
    refine lv_iload_n hx hb dX0_gatherResolvents_30 rfl (lv_at hl 4 rfl) ?_
    refine xc_s (As := [.int v]) (rest := [.int ((xse S) k)]) ⟨hx, hb, hml, hown, hts⟩ (kX0_positive l v) (va_cwS 1 hts (gd_S bw_54 bw_55 bw_1 bw_56) rfl rfl rfl (by decide +kernel) ⟨Nat.le_of_ble_eq_true rfl, Nat.le_of_ble_eq_true rfl⟩) rfl hl.1 rfl (Nat.le_of_ble_eq_true rfl) dX0_gatherResolvents_31 ⟨Nat.zero_le _, Nat.zero_le _⟩ ?_
    refine lv_iand hx hb dX0_gatherResolvents_34 ?_
    refine lv_if_eq (tgt := 53) hx hb dX0_gatherResolvents_35 (by decide) (fun hc35 => ?_) (fun hc35 => ?_)
    · refine lv_iload_n hx hb dX0_gatherResolvents_53 rfl (lv_at hl 1 rfl) ?_
      refine lv_iconst (v := (-1)) hx hb dX0_gatherResolvents_54 (by decide) ?_
      refine lv_icmp_ne (tgt := 60) hx hb dX0_gatherResolvents_55 (by decide) (fun hc55 => ?_) (fun hc55 => ?_)
      · refine lv_iinc (k := 0) (v := nI (k + 1)) (lv' := [(4, .int (nI (k + 1))), (3, .int (nI R.length)), (2, .int (nI (q_cw (vXL S) (k_both v)))), (0, .ref (q 0)), (1, .int v)]) hx hb dX0_gatherResolvents_60 hl rfl (ii_1 _) (by decide) rfl (fun ls hl => ?_)
        refine lv_goto (tgt := 14) hx hb dX0_gatherResolvents_63 (by decide) ?_
        exact ih14 (k + 1, R, f) _ _ _ ⟨lv_sub hl [0, 1, 2, 3, 4] rfl, hP, hD, hS, (by omega), hR, hRm, (by rw [hq, g2_skip hlt (by rw [hs]; exact hc35)])⟩ (by show xn S - (k + 1) < xn S - k; omega)
      · exact absurd hc55 (nI_m1 (by omega))
    · refine lv_aload_n hx hb dX0_gatherResolvents_38 rfl (lv_at hl 3 rfl) ?_
      refine lv_aload_n hx hb dX0_gatherResolvents_39 rfl (lv_at hl 3 rfl) ?_
      refine va_get (v := .ref (q 1)) hx hb hts hinX0 hown hK hP 0 rfl rfl 2 (by decide) hf9 (fun _ h9 => h9) rfl dX0_gatherResolvents_40 ?_
      refine lv_iload hx hb dX0_gatherResolvents_43 (lv_at hl 0 rfl) ?_
      refine xa_ld hx hb hK hP 1 0 rfl rfl k (by omega) (by first | decide | assumption) dX0_gatherResolvents_45 ?_
      refine lv_iload_n hx hb dX0_gatherResolvents_46 rfl (lv_at hl 4 rfl) ?_
      refine lv_iload_n hx hb dX0_gatherResolvents_47 rfl (lv_at hl 1 rfl) ?_
      refine lv_iload_n hx hb dX0_gatherResolvents_48 rfl (lv_at hl 2 rfl) ?_
      refine xc_wi (As := [.int ((xse S) k), .int v, .int (nI R.length), .int (nI (q_cw (vXL S) (k_both v)))]) (rest := []) ⟨hx, hb, hml, hown, hts⟩ (kX0_gatherResolventsOf l D q cA (xk (xd S) (xt S) (xn S) (xm S) (xh S) (xg S) (xse S) (xnu S) (xes S) (xel S) (xgi S) f) ⟨hn40, hh200, hg100⟩ ((xse S) k) v R (q_cw (vXL S) (k_both v)) hR hRm (by omega) _) (cwV 4 hts (gd_V bw_215 bw_216 bw_432 bw_1 bw_217) rfl rfl rfl (by decide +kernel) ⟨Nat.le_of_ble_eq_true rfl, Nat.le_of_ble_eq_true rfl⟩) (va_recv (ci := 0) (q0 := 0) hK hP rfl rfl) hP hK hD hS hA rfl hl.1 rfl (Nat.le_of_ble_eq_true rfl) dX0_gatherResolvents_49 ⟨Nat.zero_le _, Nat.zero_le _⟩ (fun r1 f1 H locs hf1 hP hD hS => ?_)
      have hP : va_P D vwCl (wX q cA (xk (xd S) (xt S) (xn S) (xm S) (xh S) (xg S) (xse S) (xnu S) (xes S) (xel S) (xgi S) f1)) H := hP
      have hD : va_D _ (wX q cA (xk (xd S) (xt S) (xn S) (xm S) (xh S) (xg S) (xse S) (xnu S) (xes S) (xel S) (xgi S) f1)) := hD
      refine lv_istore_n (lv' := [(3, .int r1), (4, .int (nI k)), (2, .int (nI (q_cw (vXL S) (k_both v)))), (0, .ref (q 0)), (1, .int v)]) hx hb dX0_gatherResolvents_52 rfl hl (by decide) rfl (fun ls hl => ?_)
      refine lv_iload_n hx hb dX0_gatherResolvents_53 rfl (lv_at hl 0 rfl) ?_
      refine lv_iconst (v := (-1)) hx hb dX0_gatherResolvents_54 (by decide) ?_
      refine lv_icmp_ne (tgt := 60) hx hb dX0_gatherResolvents_55 (by decide) (fun hc55 => ?_) (fun hc55 => ?_)
      · obtain ⟨R1, ho⟩ : ∃ R1, q_g1 (vXL S) (xse S k) v (q_cw (vXL S) (k_both v)) (xn S) 0 R = some R1 := some_of_ne (fun z => by
          have z2 : q_post (q_g1 (vXL S) (xse S k) v (q_cw (vXL S) (k_both v)) (xn S) 0 R) (q_cw (vXL S) (k_both v)) r1 f1 := hf1
          rw [z] at z2
          exact hc55 z2)
        have hf1 : r1 = nI R1.length ∧ cl_lst R1.length f1 = R1 ∧ R1.length ≤ (q_cw (vXL S) (k_both v)) := by
          have z2 : q_post (q_g1 (vXL S) (xse S k) v (q_cw (vXL S) (k_both v)) (xn S) 0 R) (q_cw (vXL S) (k_both v)) r1 f1 := hf1
          rw [ho] at z2
          exact z2
        have hl : lv_has ls 5 [(3, .int (nI R1.length)), (4, .int (nI k)), (2, .int (nI (q_cw (vXL S) (k_both v)))), (0, .ref (q 0)), (1, .int v)] := by rw [hf1.1] at hl; exact hl
        refine lv_iinc (k := 1) (v := nI (k + 1)) (lv' := [(4, .int (nI (k + 1))), (3, .int (nI R1.length)), (2, .int (nI (q_cw (vXL S) (k_both v)))), (0, .ref (q 0)), (1, .int v)]) hx hb dX0_gatherResolvents_60 hl rfl (ii_1 _) (by decide) rfl (fun ls hl => ?_)
        refine lv_goto (tgt := 14) hx hb dX0_gatherResolvents_63 (by decide) ?_
        exact ih14 (k + 1, R1, f1) _ _ _ ⟨lv_sub hl [0, 1, 2, 3, 4] rfl, hP, hD, hS, (by omega), hf1.2.1, hf1.2.2, (by rw [hq, g2_some hlt (by rw [hs]; exact hc35) (by rw [hs, vXL_len]; exact ho)])⟩ (by show xn S - (k + 1) < xn S - k; omega)
      · have ho : q_g1 (vXL S) (xse S k) v (q_cw (vXL S) (k_both v)) (xn S) 0 R = none := by
          have z2 : q_post (q_g1 (vXL S) (xse S k) v (q_cw (vXL S) (k_both v)) (xn S) 0 R) (q_cw (vXL S) (k_both v)) r1 f1 := hf1
          cases hc : q_g1 (vXL S) (xse S k) v (q_cw (vXL S) (k_both v)) (xn S) 0 R with
          | none => rfl
          | some R1 =>
            rw [hc] at z2
            have z3 : r1 = nI R1.length ∧ cl_lst R1.length f1 = R1 ∧ R1.length ≤ (q_cw (vXL S) (k_both v)) := z2
            exact absurd (z3.1.symm.trans hc55) (nI_m1 (by have := z3.2.2; omega))
        refine lv_iconst (v := (-1)) hx hb dX0_gatherResolvents_58 (by decide) ?_
        have hpo : q_post (q_g2 (vXL S) v (q_cw (vXL S) (k_both v)) (xn S) 0 []) (q_cw (vXL S) (k_both v)) (-1) f1 := by
          show q_post (q_g2 (vXL S) v (q_cw (vXL S) (k_both v)) (xn S - 0) 0 []) (q_cw (vXL S) (k_both v)) (-1) f1
          rw [hq, g2_none hlt (by rw [hs]; exact hc35) (by rw [hs, vXL_len]; exact ho)]
          rfl
        exact W.iret (v := (-1)) hx hb hr (fun t ht hW => ⟨⟨(-1), f1, rfl, hpo, by rw [ht]; exact hP, va_K.moved hW.alike hK, hD⟩, hS.F ht⟩) hS.2.2 dX0_gatherResolvents_59

set_option maxHeartbeats 4000000 in
set_option maxRecDepth 100000 in
theorem kX0_pushAllWith (l : Launch) (D : va_G) (q : Nat → Nat) (cA : ClassId) (S : XS) (hok : okX S) (b : Int32) (hroom : xh S + q_cw (vXL S) b ≤ 200) (sz : Nat) : xw_Mv l yX0_pushAllWith wsX0_pushAllWith ({ frames := 1, cells := 0, slots := 0, locals := 22 }) D vwCl [(cA, .int)] [.ref (q 0), .int b] (wX q cA S) sz (fun z : Nat × (Nat → Int32) × (Nat → Int32) => cl_of z.1 z.2.1 z.2.2 = vXT S ++ q_pal b (vXL S) ∧ z.1 ≤ 200) (fun z => wX q cA (xk (xd S) (xt S) (xn S) (xm S) z.1 (xg S) (xse S) (xnu S) z.2.1 z.2.2 (xgi S) (xre S))) := by
  refine Met.ofW (cc := cX0_pushAllWith) (maxL := 3) (ret := none) (by decide) rfl ?_
  intro p e s m args below meth c s₁ B hml hv
  obtain ⟨rfl, hsz, hP, hK, hD0⟩ := hv
  subst hsz
  have hD := hD0.self (sz := s.heap.size)
  have hA : ∀ z, s.heap.size ≤ z → va_A (wX q cA S) s.heap.size z := fun z h => Or.inr h
  have hS : va_S (va_A (wX q cA S) s.heap.size) s.heap s.heap [] := va_S.rf
  obtain ⟨hn40, hh200, hg100⟩ := id hok
  have hx := B.exec
  have hb := B.bytes
  have hr := B.returns
  have hts := atoms_spec (ws := wsX0_pushAllWith) B.pre
  have hown : s.vm.findClass RX0 = some m.cls := findClass_of_methodNamed B.named
  have hlocks := B.notSynchronized
  have hinX0 : ∀ w ∈ u_ws RX0 TX0 12, w ∈ wsX0_pushAllWith := fun w h => List.mem_cons_of_mem _ (bw_X0 w h)
  have hf9 := hts _ (List.mem_cons_of_mem _ bw_21)
  have hf58 := hts _ (List.mem_cons_of_mem _ bw_23)
  have hl := lv_entry ([.ref (q 0), .int b]) (n := 3) (Nat.le_of_ble_eq_true rfl)
  rw [lg_entry_eq]
  generalize (lg_sl ([.ref (q 0), .int b]) ++ List.replicate (3 - (lg_sl ([.ref (q 0), .int b])).length) Slot.unset).toArray = ls at hl ⊢
  have hl : lv_has ls 3 [(0, .ref (q 0)), (1, .int b)] := hl
  refine lv_iconst (v := 0) hx hb dX0_pushAllWith_0 (by decide) ?_
  refine lv_istore_n (lv' := [(2, .int 0), (0, .ref (q 0)), (1, .int b)]) hx hb dX0_pushAllWith_1 rfl hl (by decide) rfl (fun ls hl => ?_)
  refine wlw (σ := Nat × Nat × (Nat → Int32) × (Nat → Int32)) (fun (x9 : Nat × Nat × (Nat → Int32) × (Nat → Int32)) (H : Heap) (locs : List Loc) ls => match x9 with | (k, h, f, g) => lv_has ls 3 [(2, .int (nI k)), (0, .ref (q 0)), (1, .int b)] ∧ va_P D vwCl (wX q cA (xk (xd S) (xt S) (xn S) (xm S) h (xg S) (xse S) (xnu S) f g (xgi S) (xre S))) H ∧ va_D (va_A (wX q cA S) s.heap.size) (wX q cA (xk (xd S) (xt S) (xn S) (xm S) h (xg S) (xse S) (xnu S) f g (xgi S) (xre S))) ∧ va_S (va_A (wX q cA S) s.heap.size) s.heap H locs ∧ k ≤ xn S ∧ cl_of h f g = vXT S ++ q_pal b (cl_of k (xse S) (xnu S)) ∧ h + q_ct (fun i => (q_set (vXL S) i &&& b) != 0) (xn S - k) k 0 ≤ 200) (fun (x9 : Nat × Nat × (Nat → Int32) × (Nat → Int32)) => match x9 with | (k, h, f, g) => xn S - k) (0, xh S, xes S, xel S) ⟨lv_sub hl [0, 1, 2] rfl, hP, hD, hS, (Nat.zero_le _), (List.append_nil _).symm, (by have z := hroom; unfold q_cw at z; rw [vXL_len] at z; exact z)⟩ ?_
  intro x9 H locs ls hI ih2
  obtain ⟨k, h, f, g⟩ := x9
  obtain ⟨hl, hP, hD, hS, hk, hT, hro⟩ := hI
  have hl : lv_has ls 3 [(2, .int (nI k)), (0, .ref (q 0)), (1, .int b)] := hl
  refine lv_iload_n hx hb dX0_pushAllWith_2 rfl (lv_at hl 0 rfl) ?_
  refine lv_aload_n hx hb dX0_pushAllWith_3 rfl (lv_at hl 1 rfl) ?_
  refine va_get (v := .int (nI (xn S))) hx hb hts hinX0 hown hK hP 0 rfl rfl 4 (by decide) hf58 (fun _ h9 => h9) rfl dX0_pushAllWith_4 ?_
  refine lv_icmp_ge (tgt := 38) hx hb dX0_pushAllWith_7 (by decide) (fun hc7 => ?_) (fun hc7 => ?_)
  · have hge : xn S ≤ k := (nI_leI (by omega) (by omega)).mp hc7
    have hpo : cl_of (h, f, g).1 (h, f, g).2.1 (h, f, g).2.2 = vXT S ++ q_pal b (vXL S) ∧ (h, f, g).1 ≤ 200 := by
      have hkn : k = xn S := by omega
      rw [hkn] at hT
      exact ⟨hT, by omega⟩
    exact W.vret hx hb hr (fun t ht hW => ⟨⟨(h, f, g), rfl, hpo, by rw [ht]; exact hP, va_K.moved hW.alike hK, hD⟩, hS.F ht⟩) hS.2.2 dX0_pushAllWith_38
  · have hlt : k < xn S := Nat.lt_of_not_le (fun z => hc7 ((nI_leI (by omega) (by omega)).mpr z))
    have hs : q_set (vXL S) k = xse S k := q_set_of hlt
    refine lv_aload_n hx hb dX0_pushAllWith_10 rfl (lv_at hl 1 rfl) ?_
    refine va_get (v := .ref (q 1)) hx hb hts hinX0 hown hK hP 0 rfl rfl 2 (by decide) hf9 (fun _ h9 => h9) rfl dX0_pushAllWith_11 ?_
    refine lv_iload_n hx hb dX0_pushAllWith_14 rfl (lv_at hl 0 rfl) ?_
    refine xa_ld hx hb hK hP 1 0 rfl rfl k (by omega) (by first | decide | assumption) dX0_pushAllWith_15 ?_
    refine lv_iload_n hx hb dX0_pushAllWith_16 rfl (lv_at hl 2 rfl) ?_
    refine lv_iand hx hb dX0_pushAllWith_17 ?_
    refine lv_if_eq (tgt := 32) hx hb dX0_pushAllWith_18 (by decide) (fun hc18 => ?_) (fun hc18 => ?_)
    · refine lv_iinc (k := 0) (v := nI (k + 1)) (lv' := [(2, .int (nI (k + 1))), (0, .ref (q 0)), (1, .int b)]) hx hb dX0_pushAllWith_32 hl rfl (ii_1 _) (by decide) rfl (fun ls hl => ?_)
      refine lv_goto (tgt := 2) hx hb dX0_pushAllWith_35 (by decide) ?_
      exact ih2 (k + 1, h, f, g) _ _ _ ⟨lv_sub hl [0, 1, 2] rfl, hP, hD, hS, (by omega), (by rw [hT, pal_f hc18]), (by rw [q_ct_f hlt (by simp [hs, hc18])] at hro; exact hro)⟩ (by show xn S - (k + 1) < xn S - k; omega)
    · rw [q_ct_t hlt (by simp [hs, hc18]), q_ct_acc] at hro
      refine lv_aload_n hx hb dX0_pushAllWith_21 rfl (lv_at hl 1 rfl) ?_
      refine lv_aload_n hx hb dX0_pushAllWith_22 rfl (lv_at hl 1 rfl) ?_
      refine va_get (v := .ref (q 1)) hx hb hts hinX0 hown hK hP 0 rfl rfl 2 (by decide) hf9 (fun _ h9 => h9) rfl dX0_pushAllWith_23 ?_
      refine lv_iload_n hx hb dX0_pushAllWith_26 rfl (lv_at hl 0 rfl) ?_
      refine xa_ld hx hb hK hP 1 0 rfl rfl k (by omega) (by first | decide | assumption) dX0_pushAllWith_27 ?_
      refine lv_iload_n hx hb dX0_pushAllWith_28 rfl (lv_at hl 2 rfl) ?_
      refine xc_wv (As := [.int ((xse S) k), .int b]) (rest := []) ⟨hx, hb, hml, hown, hts⟩ (kX0_push l D q cA (xk (xd S) (xt S) (xn S) (xm S) h (xg S) (xse S) (xnu S) f g (xgi S) (xre S)) ⟨hn40, (show h ≤ 200 by omega), hg100⟩ ((xse S) k) b (show h < 200 by omega) _) (cwV 2 hts (gd_V bw_149 bw_150 bw_418 bw_1 bw_151) rfl rfl rfl (by decide +kernel) ⟨Nat.le_of_ble_eq_true rfl, Nat.le_of_ble_eq_true rfl⟩) (va_recv (ci := 0) (q0 := 0) hK hP rfl rfl) hP hK hD hS hA rfl hl.1 rfl (Nat.le_of_ble_eq_true rfl) dX0_pushAllWith_29 ⟨Nat.zero_le _, Nat.zero_le _⟩ (fun u1 H locs hu1 hP hD hS => ?_)
      have hP : va_P D vwCl (wX q cA (xk (xd S) (xt S) (xn S) (xm S) (h + 1) (xg S) (xse S) (xnu S) (upd f h (xse S k)) (upd g h b) (xgi S) (xre S))) H := by rw [hu1] at hP; exact hP
      have hD : va_D (va_A (wX q cA S) s.heap.size) (wX q cA (xk (xd S) (xt S) (xn S) (xm S) (h + 1) (xg S) (xse S) (xnu S) (upd f h (xse S k)) (upd g h b) (xgi S) (xre S))) := by rw [hu1] at hD; exact hD
      refine lv_iinc (k := 0) (v := nI (k + 1)) (lv' := [(2, .int (nI (k + 1))), (0, .ref (q 0)), (1, .int b)]) hx hb dX0_pushAllWith_32 hl rfl (ii_1 _) (by decide) rfl (fun ls hl => ?_)
      refine lv_goto (tgt := 2) hx hb dX0_pushAllWith_35 (by decide) ?_
      exact ih2 (k + 1, h + 1, upd f h (xse S k), upd g h b) _ _ _ ⟨lv_sub hl [0, 1, 2] rfl, hP, hD, hS, (by omega), (by rw [mk_cl, hT, pal_t hc18, List.append_assoc]), (by omega)⟩ (by show xn S - (k + 1) < xn S - k; omega)
