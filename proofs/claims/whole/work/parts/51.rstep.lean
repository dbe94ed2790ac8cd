/-! The reference: step. -/
set_option maxHeartbeats 4000000 in
set_option maxRecDepth 100000 in
theorem kX1_step_0 (l : Launch) (D : va_G) (q : Nat → Nat) (cA : ClassId) (S : MS) (hok : okM S) (hg : g_cl (vML S)) (hn9 : yn S ≤ 40) (sz : Nat) : xw_Mi l yX1_step wsX1_step ({ frames := 3, cells := 0, slots := 0, locals := 69 }) D vwCl [(cA, .int)] [.ref (q 0), .int 0] (wM q cA S) sz (fun (r : Int32) (u : MS) => ((r : Int32), yth u) = (if (v_steps 0 (mu_L (vML S) + 1) 0 (vML S) (vMT S)).1 = -1 then ((0 : Int32), (2 : Int32)) else (nI (v_steps 0 (mu_L (vML S) + 1) 0 (vML S) (vMT S)).2.1, 0)) ∧ vML u = (v_steps 0 (mu_L (vML S) + 1) 0 (vML S) (vMT S)).2.2.1 ∧ vMT u = (v_steps 0 (mu_L (vML S) + 1) 0 (vML S) (vMT S)).2.2.2 ∧ y_samH S u ∧ g_stp S u) (wM q cA) := by
  refine Met.ofW (cc := cX1_step) (maxL := 4) (ret := (some .int)) (by decide) rfl ?_
  intro p e s m args below meth c s₁ B hml hv
  obtain ⟨rfl, hsz, hP, hK, hD0⟩ := hv
  subst hsz
  have hD := hD0.self (sz := s.heap.size)
  have hA : ∀ z, s.heap.size ≤ z → va_A (wM q cA S) s.heap.size z := fun z h => Or.inr h
  have hS : va_S (va_A (wM q cA S) s.heap.size) s.heap s.heap [] := va_S.rf
  obtain ⟨hn40, hh200, hg100⟩ := id hok
  have hmu9 : mu_L (vML S) ≤ 1320 := by
    have z := mu_le (vML S)
    rw [vML_len] at z
    omega
  have hx := B.exec
  have hb := B.bytes
  have hr := B.returns
  have hts := atoms_spec (ws := wsX1_step) B.pre
  have hown : s.vm.findClass RX1 = some m.cls := findClass_of_methodNamed B.named
  have hlocks := B.notSynchronized
  have hinX1 : ∀ w ∈ u_ws RX1 TX1 12, w ∈ wsX1_step := fun w h => List.mem_cons_of_mem _ (bw_X1 w h)
  have hf25 := hts _ (List.mem_cons_of_mem _ bw_269)
  have hl := lv_entry ([.ref (q 0), .int 0]) (n := 4) (Nat.le_of_ble_eq_true rfl)
  rw [lg_entry_eq]
  generalize (lg_sl ([.ref (q 0), .int 0]) ++ List.replicate (4 - (lg_sl ([.ref (q 0), .int 0])).length) Slot.unset).toArray = ls at hl ⊢
  have hl : lv_has ls 4 [(0, .ref (q 0)), (1, .int 0)] := hl
  refine lv_aload_n hx hb dX1_step_0 rfl (lv_at hl 0 rfl) ?_
  refine lv_iload_n hx hb dX1_step_1 rfl (lv_at hl 1 rfl) ?_
  refine lv_if_lt (tgt := 10) hx hb dX1_step_2 (by decide) (fun hc2 => ?_) (fun hc2 => ?_)
  · exact absurd hc2 (by decide)
  · refine lv_iload_n hx hb dX1_step_5 rfl (lv_at hl 1 rfl) ?_
    refine lv_iconst (v := 3) hx hb dX1_step_6 (by decide) ?_
    refine lv_icmp_le (tgt := 14) hx hb dX1_step_7 (by decide) (fun hc7 => ?_) (fun hc7 => ?_)
    · refine lv_iconst (v := 0) hx hb dX1_step_14 (by decide) ?_
      refine va_put (v := .int 0) (ty := .int) hx hb hts hinX1 tyX1 tyX1_ok nmX1 hown hK hP hD hS 0 rfl rfl 11 (by decide) hf25 (fun _ h9 => h9) rfl (by decide +kernel) rfl rfl (Nat.le_of_ble_eq_true rfl) dX1_step_15 (fun H locs hP hD hS => ?_)
      have hP : va_P D vwCl (wM q cA (yk (yd S) (yn S) (ym S) (yh S) (yg S) (yt S) 0 (yse S) (ynu S) (yes S) (yel S) (ygi S))) H := hP
      have hD : va_D _ (wM q cA (yk (yd S) (yn S) (ym S) (yh S) (yg S) (yt S) 0 (yse S) (ynu S) (yes S) (yel S) (ygi S))) := hD
      refine lv_iconst (v := 0) hx hb dX1_step_18 (by decide) ?_
      refine lv_istore_n (lv' := [(2, .int 0), (0, .ref (q 0)), (1, .int 0)]) hx hb dX1_step_19 rfl hl (by decide) rfl (fun ls hl => ?_)
      refine lv_aload_n hx hb dX1_step_20 rfl (lv_at hl 1 rfl) ?_
      refine va_get (v := .int 0) hx hb hts hinX1 hown hK hP 0 rfl rfl 11 (by decide) hf25 (fun _ h9 => h9) rfl dX1_step_21 ?_
      refine lv_if_ne (tgt := 31) hx hb dX1_step_24 (by decide) (fun hc24 => ?_) (fun hc24 => ?_)
      · exact absurd hc24 (by decide)
      · refine lv_iconst (v := 1) hx hb dX1_step_27 (by decide) ?_
        refine lv_goto (tgt := 32) hx hb dX1_step_28 (by decide) ?_
        refine lv_istore_n (lv' := [(3, .int 1), (2, .int 0), (0, .ref (q 0)), (1, .int 0)]) hx hb dX1_step_32 rfl hl (by decide) rfl (fun ls hl => ?_)
        refine wlw (σ := Int32 × Nat × Nat × MS) (fun (x9 : Int32 × Nat × Nat × MS) (H : Heap) (locs : List Loc) ls => match x9 with | (hw, n, f, u) => lv_has ls 4 [(3, .int hw), (2, .int (nI n)), (0, .ref (q 0)), (1, .int 0)] ∧ va_P D vwCl (wM q cA u) H ∧ va_D (va_A (wM q cA S) s.heap.size) (wM q cA u) ∧ va_S (va_A (wM q cA S) s.heap.size) s.heap H locs ∧ (hw = 1 ∨ hw = 0 ∨ hw = -1) ∧ (hw = 1 → mu_L (vML u) < f) ∧ y_samT (yk (yd S) (yn S) (ym S) (yh S) (yg S) (yt S) 0 (yse S) (ynu S) (yes S) (yel S) (ygi S)) u ∧ g_stp S u ∧ okM u ∧ g_cl (vML u) ∧ yn u ≤ 40 ∧ (v_steps 0 (mu_L (vML S) + 1) 0 (vML S) (vMT S)) = (if hw = 1 then v_steps 0 f n (vML u) (vMT u) else (hw, n, vML u, vMT u)) ∧ n + f ≤ mu_L (vML S) + 1) (fun (x9 : Int32 × Nat × Nat × MS) => match x9 with | (hw, n, f, u) => (if hw = 1 then mu_L (vML u) + 1 else 0)) (1, 0, mu_L (vML S) + 1, (yk (yd S) (yn S) (ym S) (yh S) (yg S) (yt S) 0 (yse S) (ynu S) (yes S) (yel S) (ygi S))) ⟨lv_sub hl [0, 1, 2, 3] rfl, hP, hD, hS, (Or.inl rfl), (fun _ => Nat.lt_succ_self _), (y_same.rf (yk (yd S) (yn S) (ym S) (yh S) (yg S) (yt S) 0 (yse S) (ynu S) (yes S) (yel S) (ygi S))).T, g_stp.rf S, ⟨hn40, hh200, hg100⟩, hg, hn9, rfl, (by omega)⟩ ?_
        intro x9 H locs ls hI ih33
        obtain ⟨hw, n, f, u⟩ := x9
        obtain ⟨hl, hP, hD, hS, hh, hmu, hsm, hgs, hok1, hgl, hy, hq, hnf⟩ := hI
        have hl : lv_has ls 4 [(3, .int hw), (2, .int (nI n)), (0, .ref (q 0)), (1, .int 0)] := hl
        refine lv_iload_n hx hb dX1_step_33 rfl (lv_at hl 0 rfl) ?_
        refine lv_if_le (tgt := 92) hx hb dX1_step_34 (by decide) (fun hc34 => ?_) (fun hc34 => ?_)
        · have hn1 : ¬ hw = 1 := fun z => le0 z hc34
          rw [if_neg hn1] at hq
          have hth : yth u = 0 := hsm.th
          refine lv_aload_n hx hb dX1_step_92 rfl (lv_at hl 2 rfl) ?_
          refine lv_iload_n hx hb dX1_step_93 rfl (lv_at hl 0 rfl) ?_
          refine lv_if_ge (tgt := 101) hx hb dX1_step_94 (by decide) (fun hc94 => ?_) (fun hc94 => ?_)
          · have h0 : hw = 0 := h00 hh hc34 hc94
            refine lv_aload_n hx hb dX1_step_101 rfl (lv_at hl 2 rfl) ?_
            refine va_get (v := .int (yth u)) hx hb hts hinX1 hown hK hP 0 rfl rfl 11 (by decide) hf25 (fun _ h9 => h9) rfl dX1_step_102 ?_
            refine lv_topi (fun z1 ez1 => ?_)
            obtain rfl : z1 = 0 := ez1.trans hth
            refine va_put (v := .int 0) (ty := .int) hx hb hts hinX1 tyX1 tyX1_ok nmX1 hown hK hP hD hS 0 rfl rfl 11 (by decide) hf25 (fun _ h9 => h9) rfl (by decide +kernel) rfl rfl (Nat.le_of_ble_eq_true rfl) dX1_step_105 (fun H locs hP hD hS => ?_)
            have hP : va_P D vwCl (wM q cA (yk (yd u) (yn u) (ym u) (yh u) (yg u) (yt u) 0 (yse u) (ynu u) (yes u) (yel u) (ygi u))) H := hP
            have hD : va_D _ (wM q cA (yk (yd u) (yn u) (ym u) (yh u) (yg u) (yt u) 0 (yse u) (ynu u) (yes u) (yel u) (ygi u))) := hD
            refine lv_aload_n hx hb dX1_step_108 rfl (lv_at hl 2 rfl) ?_
            refine va_get (v := .int 0) hx hb hts hinX1 hown hK hP 0 rfl rfl 11 (by decide) hf25 (fun _ h9 => h9) rfl dX1_step_109 ?_
            refine lv_if_ne (tgt := 119) hx hb dX1_step_112 (by decide) (fun hc112 => ?_) (fun hc112 => ?_)
            · exact absurd hc112 (by decide)
            · refine lv_iload_n hx hb dX1_step_115 rfl (lv_at hl 1 rfl) ?_
              refine lv_goto (tgt := 120) hx hb dX1_step_116 (by decide) ?_
              have hpo : ((nI n : Int32), yth (yk (yd u) (yn u) (ym u) (yh u) (yg u) (yt u) 0 (yse u) (ynu u) (yes u) (yel u) (ygi u))) = (if (v_steps 0 (mu_L (vML S) + 1) 0 (vML S) (vMT S)).1 = -1 then ((0 : Int32), (2 : Int32)) else (nI (v_steps 0 (mu_L (vML S) + 1) 0 (vML S) (vMT S)).2.1, 0)) ∧ vML (yk (yd u) (yn u) (ym u) (yh u) (yg u) (yt u) 0 (yse u) (ynu u) (yes u) (yel u) (ygi u)) = (v_steps 0 (mu_L (vML S) + 1) 0 (vML S) (vMT S)).2.2.1 ∧ vMT (yk (yd u) (yn u) (ym u) (yh u) (yg u) (yt u) 0 (yse u) (ynu u) (yes u) (yel u) (ygi u)) = (v_steps 0 (mu_L (vML S) + 1) 0 (vML S) (vMT S)).2.2.2 ∧ y_samH S (yk (yd u) (yn u) (ym u) (yh u) (yg u) (yt u) 0 (yse u) (ynu u) (yes u) (yel u) (ygi u)) ∧ g_stp S (yk (yd u) (yn u) (ym u) (yh u) (yg u) (yt u) 0 (yse u) (ynu u) (yes u) (yel u) (ygi u)) := ⟨by rw [hq, if_neg (show ¬ hw = -1 by rw [h0]; decide)], by rw [hq], by rw [hq], hsm.H _, hgs⟩
              exact W.iret (v := (nI n)) hx hb hr (fun t ht hW => ⟨⟨(nI n), (yk (yd u) (yn u) (ym u) (yh u) (yg u) (yt u) 0 (yse u) (ynu u) (yes u) (yel u) (ygi u)), rfl, hpo, by rw [ht]; exact hP, va_K.moved hW.alike hK, hD⟩, hS.F ht⟩) hS.2.2 dX1_step_120
          · have h0 : hw = -1 := h0m hh hc34 hc94
            refine lv_iconst (v := 2) hx hb dX1_step_97 (by decide) ?_
            refine lv_goto (tgt := 105) hx hb dX1_step_98 (by decide) ?_
            refine va_put (v := .int 2) (ty := .int) hx hb hts hinX1 tyX1 tyX1_ok nmX1 hown hK hP hD hS 0 rfl rfl 11 (by decide) hf25 (fun _ h9 => h9) rfl (by decide +kernel) rfl rfl (Nat.le_of_ble_eq_true rfl) dX1_step_105 (fun H locs hP hD hS => ?_)
            have hP : va_P D vwCl (wM q cA (yk (yd u) (yn u) (ym u) (yh u) (yg u) (yt u) 2 (yse u) (ynu u) (yes u) (yel u) (ygi u))) H := hP
            have hD : va_D _ (wM q cA (yk (yd u) (yn u) (ym u) (yh u) (yg u) (yt u) 2 (yse u) (ynu u) (yes u) (yel u) (ygi u))) := hD
            refine lv_aload_n hx hb dX1_step_108 rfl (lv_at hl 2 rfl) ?_
            refine va_get (v := .int 2) hx hb hts hinX1 hown hK hP 0 rfl rfl 11 (by decide) hf25 (fun _ h9 => h9) rfl dX1_step_109 ?_
            refine lv_if_ne (tgt := 119) hx hb dX1_step_112 (by decide) (fun hc112 => ?_) (fun hc112 => ?_)
            · refine lv_iconst (v := 0) hx hb dX1_step_119 (by decide) ?_
              have hpo : ((0 : Int32), yth (yk (yd u) (yn u) (ym u) (yh u) (yg u) (yt u) 2 (yse u) (ynu u) (yes u) (yel u) (ygi u))) = (if (v_steps 0 (mu_L (vML S) + 1) 0 (vML S) (vMT S)).1 = -1 then ((0 : Int32), (2 : Int32)) else (nI (v_steps 0 (mu_L (vML S) + 1) 0 (vML S) (vMT S)).2.1, 0)) ∧ vML (yk (yd u) (yn u) (ym u) (yh u) (yg u) (yt u) 2 (yse u) (ynu u) (yes u) (yel u) (ygi u)) = (v_steps 0 (mu_L (vML S) + 1) 0 (vML S) (vMT S)).2.2.1 ∧ vMT (yk (yd u) (yn u) (ym u) (yh u) (yg u) (yt u) 2 (yse u) (ynu u) (yes u) (yel u) (ygi u)) = (v_steps 0 (mu_L (vML S) + 1) 0 (vML S) (vMT S)).2.2.2 ∧ y_samH S (yk (yd u) (yn u) (ym u) (yh u) (yg u) (yt u) 2 (yse u) (ynu u) (yes u) (yel u) (ygi u)) ∧ g_stp S (yk (yd u) (yn u) (ym u) (yh u) (yg u) (yt u) 2 (yse u) (ynu u) (yes u) (yel u) (ygi u)) := ⟨by rw [hq, if_pos h0], by rw [hq], by rw [hq], hsm.H _, hgs⟩
              exact W.iret (v := 0) hx hb hr (fun t ht hW => ⟨⟨0, (yk (yd u) (yn u) (ym u) (yh u) (yg u) (yt u) 2 (yse u) (ynu u) (yes u) (yel u) (ygi u)), rfl, hpo, by rw [ht]; exact hP, va_K.moved hW.alike hK, hD⟩, hS.F ht⟩) hS.2.2 dX1_step_120
            · exact absurd hc112 (by decide)
        · have hw1 : hw = 1 := h01 hh hc34
          rw [if_pos hw1] at hq
          obtain ⟨f, rfl⟩ : ∃ z, f = z + 1 := ⟨f - 1, by have z := hmu hw1; omega⟩
          have hl : lv_has ls 4 [(3, .int 1), (2, .int (nI n)), (0, .ref (q 0)), (1, .int 0)] := by rw [hw1] at hl; exact hl
          refine lv_iload_n hx hb dX1_step_37 rfl (lv_at hl 3 rfl) ?_
          refine lv_if_ne (tgt := 48) hx hb dX1_step_38 (by decide) (fun hc38 => ?_) (fun hc38 => ?_)
          · exact absurd hc38 (by decide)
          · refine lv_aload_n hx hb dX1_step_41 rfl (lv_at hl 2 rfl) ?_
            refine xc_wi (As := []) (rest := []) ⟨hx, hb, hml, hown, hts⟩ (kX1_unit l D q cA u hok1 hgl hy _) (cwV 0 hts (gd_V bw_316 bw_317 bw_436 bw_2 bw_318) rfl rfl rfl (by decide +kernel) ⟨Nat.le_of_ble_eq_true rfl, Nat.le_of_ble_eq_true rfl⟩) (va_recv (ci := 1) (q0 := 0) hK hP rfl rfl) hP hK hD hS hA rfl hl.1 rfl (Nat.le_of_ble_eq_true rfl) dX1_step_42 ⟨Nat.zero_le _, Nat.zero_le _⟩ (fun r3 u2 H locs hu2 hP hD hS => ?_)
            have h9 : (r3, vML u2, vMT u2) = (v_turn 0 (vML u) (vMT u)) := hu2.2.2
            have s9 : y_samT u u2 := hu2.1
            have gs9 : g_stp u u2 := hu2.2.1
            have e1 : vML u2 = (v_turn 0 (vML u) (vMT u)).2.1 := congrArg (fun z => z.2.1) h9
            have e2 : vMT u2 = (v_turn 0 (vML u) (vMT u)).2.2 := congrArg (fun z => z.2.2) h9
            have e0 : r3 = (v_turn 0 (vML u) (vMT u)).1 := congrArg (fun z => z.1) h9
            have l9 : (vML u2).length ≤ yn u := by rw [e1, ← vML_len u]; exact (vt_all 0 (vML u) (vMT u)).2.1
            have hok2 : okM u2 := (hsm.tr s9).ok hg100 (by omega) (by rw [e2]; exact (vt_all 0 (vML u) (vMT u)).2.2.1 (by rw [vMT_len]; exact hok1.2.1))
            have hgl2 : g_cl (vML u2) := by rw [e1]; exact (vt_all 0 (vML u) (vMT u)).2.2.2.2 hgl
            have hy2 : yn u2 ≤ 40 := by rw [vML_len] at l9; omega
            refine lv_goto (tgt := 76) hx hb dX1_step_45 (by decide) ?_
            refine lv_istore_n (lv' := [(3, .int r3), (2, .int (nI n)), (0, .ref (q 0)), (1, .int 0)]) hx hb dX1_step_76 rfl hl (by decide) rfl (fun ls hl => ?_)
            refine lv_iload_n hx hb dX1_step_77 rfl (lv_at hl 0 rfl) ?_
            refine lv_if_le (tgt := 87) hx hb dX1_step_78 (by decide) (fun hc78 => ?_) (fun hc78 => ?_)
            · have hz : ¬ (v_turn 0 (vML u) (vMT u)).1 = 1 := fun z => le0 (e0.trans z) hc78
              refine lv_iload_n hx hb dX1_step_87 rfl (lv_at hl 1 rfl) ?_
              refine lv_istore_n (lv' := [(2, .int (nI n)), (3, .int r3), (0, .ref (q 0)), (1, .int 0)]) hx hb dX1_step_88 rfl hl (by decide) rfl (fun ls hl => ?_)
              refine lv_goto (tgt := 33) hx hb dX1_step_89 (by decide) ?_
              exact ih33 (r3, n, 0, u2) _ _ _ ⟨lv_sub hl [1, 0, 2, 3] rfl, hP, hD, hS, (h_or (by rw [e0]; exact (vt_all 0 (vML u) (vMT u)).1)), (fun z => absurd (by rw [← e0]; exact z) hz), (hsm.tr s9), (fun z => gs9 (hgs z)), hok2, hgl2, hy2, (by rw [hq, vs_0 hz, if_neg (by rw [e0]; exact hz), e1, e2, e0]), (by omega)⟩ (by show (if r3 = 1 then mu_L (vML u2) + 1 else 0) < (if hw = 1 then mu_L (vML u) + 1 else 0); rw [if_pos hw1, if_neg (by rw [e0]; exact hz)]; omega)
            · have hr1 : (v_turn 0 (vML u) (vMT u)).1 = 1 := by rw [← e0]; exact h01 (h_or (by rw [e0]; exact (vt_all 0 (vML u) (vMT u)).1)) hc78
              refine lv_iload_n hx hb dX1_step_81 rfl (lv_at hl 1 rfl) ?_
              refine lv_iconst (v := 1) hx hb dX1_step_82 (by decide) ?_
              refine xi_inc hx hb dX1_step_83 ?_
              refine lv_goto (tgt := 88) hx hb dX1_step_84 (by decide) ?_
              refine lv_istore_n (lv' := [(2, .int (nI (n + 1))), (3, .int r3), (0, .ref (q 0)), (1, .int 0)]) hx hb dX1_step_88 rfl hl (by decide) rfl (fun ls hl => ?_)
              refine lv_goto (tgt := 33) hx hb dX1_step_89 (by decide) ?_
              exact ih33 (r3, n + 1, f, u2) _ _ _ ⟨lv_sub hl [1, 0, 2, 3] rfl, hP, hD, hS, (h_or (by rw [e0]; exact (vt_all 0 (vML u) (vMT u)).1)), (fun z => by have z2 := (vt_all 0 (vML u) (vMT u)).2.2.2.1 hr1; rw [← e1] at z2; have z3 := hmu hw1; omega), (hsm.tr s9), (fun z => gs9 (hgs z)), hok2, hgl2, hy2, (by rw [hq, vs_1 hr1, ← e1, ← e2, if_pos (by rw [e0]; exact hr1)]), (by omega)⟩ (by show (if r3 = 1 then mu_L (vML u2) + 1 else 0) < (if hw = 1 then mu_L (vML u) + 1 else 0); rw [if_pos hw1, if_pos (by rw [e0]; exact hr1)]; have z2 := (vt_all 0 (vML u) (vMT u)).2.2.2.1 hr1; rw [← e1] at z2; omega)
    · exact absurd hc7 (by decide)

set_option maxHeartbeats 4000000 in
set_option maxRecDepth 100000 in
theorem kX1_step_1 (l : Launch) (D : va_G) (q : Nat → Nat) (cA : ClassId) (S : MS) (hok : okM S) (hg : g_cl (vML S)) (hn9 : yn S ≤ 40) (sz : Nat) : xw_Mi l yX1_step wsX1_step ({ frames := 2, cells := 0, slots := 0, locals := 44 }) D vwCl [(cA, .int)] [.ref (q 0), .int 1] (wM q cA S) sz (fun (r : Int32) (u : MS) => ((r : Int32), yth u) = (if (v_steps 1 (mu_L (vML S) + 1) 0 (vML S) (vMT S)).1 = -1 then ((0 : Int32), (2 : Int32)) else (nI (v_steps 1 (mu_L (vML S) + 1) 0 (vML S) (vMT S)).2.1, 0)) ∧ vML u = (v_steps 1 (mu_L (vML S) + 1) 0 (vML S) (vMT S)).2.2.1 ∧ vMT u = (v_steps 1 (mu_L (vML S) + 1) 0 (vML S) (vMT S)).2.2.2 ∧ y_samH S u ∧ g_stp S u) (wM q cA) := by
  refine Met.ofW (cc := cX1_step) (maxL := 4) (ret := (some .int)) (by decide) rfl ?_
  intro p e s m args below meth c s₁ B hml hv
  obtain ⟨rfl, hsz, hP, hK, hD0⟩ := hv
  subst hsz
  have hD := hD0.self (sz := s.heap.size)
  have hA : ∀ z, s.heap.size ≤ z → va_A (wM q cA S) s.heap.size z := fun z h => Or.inr h
  have hS : va_S (va_A (wM q cA S) s.heap.size) s.heap s.heap [] := va_S.rf
  obtain ⟨hn40, hh200, hg100⟩ := id hok
  have hmu9 : mu_L (vML S) ≤ 1320 := by
    have z := mu_le (vML S)
    rw [vML_len] at z
    omega
  have hx := B.exec
  have hb := B.bytes
  have hr := B.returns
  have hts := atoms_spec (ws := wsX1_step) B.pre
  have hown : s.vm.findClass RX1 = some m.cls := findClass_of_methodNamed B.named
  have hlocks := B.notSynchronized
  have hinX1 : ∀ w ∈ u_ws RX1 TX1 12, w ∈ wsX1_step := fun w h => List.mem_cons_of_mem _ (bw_X1 w h)
  have hf25 := hts _ (List.mem_cons_of_mem _ bw_269)
  have hl := lv_entry ([.ref (q 0), .int 1]) (n := 4) (Nat.le_of_ble_eq_true rfl)
  rw [lg_entry_eq]
  generalize (lg_sl ([.ref (q 0), .int 1]) ++ List.replicate (4 - (lg_sl ([.ref (q 0), .int 1])).length) Slot.unset).toArray = ls at hl ⊢
  have hl : lv_has ls 4 [(0, .ref (q 0)), (1, .int 1)] := hl
  refine lv_aload_n hx hb dX1_step_0 rfl (lv_at hl 0 rfl) ?_
  refine lv_iload_n hx hb dX1_step_1 rfl (lv_at hl 1 rfl) ?_
  refine lv_if_lt (tgt := 10) hx hb dX1_step_2 (by decide) (fun hc2 => ?_) (fun hc2 => ?_)
  · exact absurd hc2 (by decide)
  · refine lv_iload_n hx hb dX1_step_5 rfl (lv_at hl 1 rfl) ?_
    refine lv_iconst (v := 3) hx hb dX1_step_6 (by decide) ?_
    refine lv_icmp_le (tgt := 14) hx hb dX1_step_7 (by decide) (fun hc7 => ?_) (fun hc7 => ?_)
    · refine lv_iconst (v := 0) hx hb dX1_step_14 (by decide) ?_
      refine va_put (v := .int 0) (ty := .int) hx hb hts hinX1 tyX1 tyX1_ok nmX1 hown hK hP hD hS 0 rfl rfl 11 (by decide) hf25 (fun _ h9 => h9) rfl (by decide +kernel) rfl rfl (Nat.le_of_ble_eq_true rfl) dX1_step_15 (fun H locs hP hD hS => ?_)
      have hP : va_P D vwCl (wM q cA (yk (yd S) (yn S) (ym S) (yh S) (yg S) (yt S) 0 (yse S) (ynu S) (yes S) (yel S) (ygi S))) H := hP
      have hD : va_D _ (wM q cA (yk (yd S) (yn S) (ym S) (yh S) (yg S) (yt S) 0 (yse S) (ynu S) (yes S) (yel S) (ygi S))) := hD
      refine lv_iconst (v := 0) hx hb dX1_step_18 (by decide) ?_
      refine lv_istore_n (lv' := [(2, .int 0), (0, .ref (q 0)), (1, .int 1)]) hx hb dX1_step_19 rfl hl (by decide) rfl (fun ls hl => ?_)
      refine lv_aload_n hx hb dX1_step_20 rfl (lv_at hl 1 rfl) ?_
      refine va_get (v := .int 0) hx hb hts hinX1 hown hK hP 0 rfl rfl 11 (by decide) hf25 (fun _ h9 => h9) rfl dX1_step_21 ?_
      refine lv_if_ne (tgt := 31) hx hb dX1_step_24 (by decide) (fun hc24 => ?_) (fun hc24 => ?_)
      · exact absurd hc24 (by decide)
      · refine lv_iconst (v := 1) hx hb dX1_step_27 (by decide) ?_
        refine lv_goto (tgt := 32) hx hb dX1_step_28 (by decide) ?_
        refine lv_istore_n (lv' := [(3, .int 1), (2, .int 0), (0, .ref (q 0)), (1, .int 1)]) hx hb dX1_step_32 rfl hl (by decide) rfl (fun ls hl => ?_)
        refine wlw (σ := Int32 × Nat × Nat × MS) (fun (x9 : Int32 × Nat × Nat × MS) (H : Heap) (locs : List Loc) ls => match x9 with | (hw, n, f, u) => lv_has ls 4 [(3, .int hw), (2, .int (nI n)), (0, .ref (q 0)), (1, .int 1)] ∧ va_P D vwCl (wM q cA u) H ∧ va_D (va_A (wM q cA S) s.heap.size) (wM q cA u) ∧ va_S (va_A (wM q cA S) s.heap.size) s.heap H locs ∧ (hw = 1 ∨ hw = 0 ∨ hw = -1) ∧ (hw = 1 → mu_L (vML u) < f) ∧ y_samT (yk (yd S) (yn S) (ym S) (yh S) (yg S) (yt S) 0 (yse S) (ynu S) (yes S) (yel S) (ygi S)) u ∧ g_stp S u ∧ okM u ∧ g_cl (vML u) ∧ yn u ≤ 40 ∧ (v_steps 1 (mu_L (vML S) + 1) 0 (vML S) (vMT S)) = (if hw = 1 then v_steps 1 f n (vML u) (vMT u) else (hw, n, vML u, vMT u)) ∧ n + f ≤ mu_L (vML S) + 1) (fun (x9 : Int32 × Nat × Nat × MS) => match x9 with | (hw, n, f, u) => (if hw = 1 then mu_L (vML u) + 1 else 0)) (1, 0, mu_L (vML S) + 1, (yk (yd S) (yn S) (ym S) (yh S) (yg S) (yt S) 0 (yse S) (ynu S) (yes S) (yel S) (ygi S))) ⟨lv_sub hl [0, 1, 2, 3] rfl, hP, hD, hS, (Or.inl rfl), (fun _ => Nat.lt_succ_self _), (y_same.rf (yk (yd S) (yn S) (ym S) (yh S) (yg S) (yt S) 0 (yse S) (ynu S) (yes S) (yel S) (ygi S))).T, g_stp.rf S, ⟨hn40, hh200, hg100⟩, hg, hn9, rfl, (by omega)⟩ ?_
        intro x9 H locs ls hI ih33
        obtain ⟨hw, n, f, u⟩ := x9
        obtain ⟨hl, hP, hD, hS, hh, hmu, hsm, hgs, hok1, hgl, hy, hq, hnf⟩ := hI
        have hl : lv_has ls 4 [(3, .int hw), (2, .int (nI n)), (0, .ref (q 0)), (1, .int 1)] := hl
        refine lv_iload_n hx hb dX1_step_33 rfl (lv_at hl 0 rfl) ?_
        refine lv_if_le (tgt := 92) hx hb dX1_step_34 (by decide) (fun hc34 => ?_) (fun hc34 => ?_)
        · have hn1 : ¬ hw = 1 := fun z => le0 z hc34
          rw [if_neg hn1] at hq
          have hth : yth u = 0 := hsm.th
          refine lv_aload_n hx hb dX1_step_92 rfl (lv_at hl 2 rfl) ?_
          refine lv_iload_n hx hb dX1_step_93 rfl (lv_at hl 0 rfl) ?_
          refine lv_if_ge (tgt := 101) hx hb dX1_step_94 (by decide) (fun hc94 => ?_) (fun hc94 => ?_)
          · have h0 : hw = 0 := h00 hh hc34 hc94
            refine lv_aload_n hx hb dX1_step_101 rfl (lv_at hl 2 rfl) ?_
            refine va_get (v := .int (yth u)) hx hb hts hinX1 hown hK hP 0 rfl rfl 11 (by decide) hf25 (fun _ h9 => h9) rfl dX1_step_102 ?_
            refine lv_topi (fun z1 ez1 => ?_)
            obtain rfl : z1 = 0 := ez1.trans hth
            refine va_put (v := .int 0) (ty := .int) hx hb hts hinX1 tyX1 tyX1_ok nmX1 hown hK hP hD hS 0 rfl rfl 11 (by decide) hf25 (fun _ h9 => h9) rfl (by decide +kernel) rfl rfl (Nat.le_of_ble_eq_true rfl) dX1_step_105 (fun H locs hP hD hS => ?_)
            have hP : va_P D vwCl (wM q cA (yk (yd u) (yn u) (ym u) (yh u) (yg u) (yt u) 0 (yse u) (ynu u) (yes u) (yel u) (ygi u))) H := hP
            have hD : va_D _ (wM q cA (yk (yd u) (yn u) (ym u) (yh u) (yg u) (yt u) 0 (yse u) (ynu u) (yes u) (yel u) (ygi u))) := hD
            refine lv_aload_n hx hb dX1_step_108 rfl (lv_at hl 2 rfl) ?_
            refine va_get (v := .int 0) hx hb hts hinX1 hown hK hP 0 rfl rfl 11 (by decide) hf25 (fun _ h9 => h9) rfl dX1_step_109 ?_
            refine lv_if_ne (tgt := 119) hx hb dX1_step_112 (by decide) (fun hc112 => ?_) (fun hc112 => ?_)
            · exact absurd hc112 (by decide)
            · refine lv_iload_n hx hb dX1_step_115 rfl (lv_at hl 1 rfl) ?_
              refine lv_goto (tgt := 120) hx hb dX1_step_116 (by decide) ?_
              have hpo : ((nI n : Int32), yth (yk (yd u) (yn u) (ym u) (yh u) (yg u) (yt u) 0 (yse u) (ynu u) (yes u) (yel u) (ygi u))) = (if (v_steps 1 (mu_L (vML S) + 1) 0 (vML S) (vMT S)).1 = -1 then ((0 : Int32), (2 : Int32)) else (nI (v_steps 1 (mu_L (vML S) + 1) 0 (vML S) (vMT S)).2.1, 0)) ∧ vML (yk (yd u) (yn u) (ym u) (yh u) (yg u) (yt u) 0 (yse u) (ynu u) (yes u) (yel u) (ygi u)) = (v_steps 1 (mu_L (vML S) + 1) 0 (vML S) (vMT S)).2.2.1 ∧ vMT (yk (yd u) (yn u) (ym u) (yh u) (yg u) (yt u) 0 (yse u) (ynu u) (yes u) (yel u) (ygi u)) = (v_steps 1 (mu_L (vML S) + 1) 0 (vML S) (vMT S)).2.2.2 ∧ y_samH S (yk (yd u) (yn u) (ym u) (yh u) (yg u) (yt u) 0 (yse u) (ynu u) (yes u) (yel u) (ygi u)) ∧ g_stp S (yk (yd u) (yn u) (ym u) (yh u) (yg u) (yt u) 0 (yse u) (ynu u) (yes u) (yel u) (ygi u)) := ⟨by rw [hq, if_neg (show ¬ hw = -1 by rw [h0]; decide)], by rw [hq], by rw [hq], hsm.H _, hgs⟩
              exact W.iret (v := (nI n)) hx hb hr (fun t ht hW => ⟨⟨(nI n), (yk (yd u) (yn u) (ym u) (yh u) (yg u) (yt u) 0 (yse u) (ynu u) (yes u) (yel u) (ygi u)), rfl, hpo, by rw [ht]; exact hP, va_K.moved hW.alike hK, hD⟩, hS.F ht⟩) hS.2.2 dX1_step_120
          · have h0 : hw = -1 := h0m hh hc34 hc94
            refine lv_iconst (v := 2) hx hb dX1_step_97 (by decide) ?_
            refine lv_goto (tgt := 105) hx hb dX1_step_98 (by decide) ?_
            refine va_put (v := .int 2) (ty := .int) hx hb hts hinX1 tyX1 tyX1_ok nmX1 hown hK hP hD hS 0 rfl rfl 11 (by decide) hf25 (fun _ h9 => h9) rfl (by decide +kernel) rfl rfl (Nat.le_of_ble_eq_true rfl) dX1_step_105 (fun H locs hP hD hS => ?_)
            have hP : va_P D vwCl (wM q cA (yk (yd u) (yn u) (ym u) (yh u) (yg u) (yt u) 2 (yse u) (ynu u) (yes u) (yel u) (ygi u))) H := hP
            have hD : va_D _ (wM q cA (yk (yd u) (yn u) (ym u) (yh u) (yg u) (yt u) 2 (yse u) (ynu u) (yes u) (yel u) (ygi u))) := hD
            refine lv_aload_n hx hb dX1_step_108 rfl (lv_at hl 2 rfl) ?_
            refine va_get (v := .int 2) hx hb hts hinX1 hown hK hP 0 rfl rfl 11 (by decide) hf25 (fun _ h9 => h9) rfl dX1_step_109 ?_
            refine lv_if_ne (tgt := 119) hx hb dX1_step_112 (by decide) (fun hc112 => ?_) (fun hc112 => ?_)
            · refine lv_iconst (v := 0) hx hb dX1_step_119 (by decide) ?_
              have hpo : ((0 : Int32), yth (yk (yd u) (yn u) (ym u) (yh u) (yg u) (yt u) 2 (yse u) (ynu u) (yes u) (yel u) (ygi u))) = (if (v_steps 1 (mu_L (vML S) + 1) 0 (vML S) (vMT S)).1 = -1 then ((0 : Int32), (2 : Int32)) else (nI (v_steps 1 (mu_L (vML S) + 1) 0 (vML S) (vMT S)).2.1, 0)) ∧ vML (yk (yd u) (yn u) (ym u) (yh u) (yg u) (yt u) 2 (yse u) (ynu u) (yes u) (yel u) (ygi u)) = (v_steps 1 (mu_L (vML S) + 1) 0 (vML S) (vMT S)).2.2.1 ∧ vMT (yk (yd u) (yn u) (ym u) (yh u) (yg u) (yt u) 2 (yse u) (ynu u) (yes u) (yel u) (ygi u)) = (v_steps 1 (mu_L (vML S) + 1) 0 (vML S) (vMT S)).2.2.2 ∧ y_samH S (yk (yd u) (yn u) (ym u) (yh u) (yg u) (yt u) 2 (yse u) (ynu u) (yes u) (yel u) (ygi u)) ∧ g_stp S (yk (yd u) (yn u) (ym u) (yh u) (yg u) (yt u) 2 (yse u) (ynu u) (yes u) (yel u) (ygi u)) := ⟨by rw [hq, if_pos h0], by rw [hq], by rw [hq], hsm.H _, hgs⟩
              exact W.iret (v := 0) hx hb hr (fun t ht hW => ⟨⟨0, (yk (yd u) (yn u) (ym u) (yh u) (yg u) (yt u) 2 (yse u) (ynu u) (yes u) (yel u) (ygi u)), rfl, hpo, by rw [ht]; exact hP, va_K.moved hW.alike hK, hD⟩, hS.F ht⟩) hS.2.2 dX1_step_120
            · exact absurd hc112 (by decide)
        · have hw1 : hw = 1 := h01 hh hc34
          rw [if_pos hw1] at hq
          obtain ⟨f, rfl⟩ : ∃ z, f = z + 1 := ⟨f - 1, by have z := hmu hw1; omega⟩
          have hl : lv_has ls 4 [(3, .int 1), (2, .int (nI n)), (0, .ref (q 0)), (1, .int 1)] := by rw [hw1] at hl; exact hl
          refine lv_iload_n hx hb dX1_step_37 rfl (lv_at hl 3 rfl) ?_
          refine lv_if_ne (tgt := 48) hx hb dX1_step_38 (by decide) (fun hc38 => ?_) (fun hc38 => ?_)
          · refine lv_iload_n hx hb dX1_step_48 rfl (lv_at hl 3 rfl) ?_
            refine lv_iconst (v := 1) hx hb dX1_step_49 (by decide) ?_
            refine lv_icmp_ne (tgt := 60) hx hb dX1_step_50 (by decide) (fun hc50 => ?_) (fun hc50 => ?_)
            · exact absurd hc50 (by decide)
            · refine lv_aload_n hx hb dX1_step_53 rfl (lv_at hl 2 rfl) ?_
              refine xc_wi (As := []) (rest := []) ⟨hx, hb, hml, hown, hts⟩ (kX1_subsume l D q cA u hok1  _) (cwV 0 hts (gd_V bw_331 bw_332 bw_440 bw_2 bw_333) rfl rfl rfl (by decide +kernel) ⟨Nat.le_of_ble_eq_true rfl, Nat.le_of_ble_eq_true rfl⟩) (va_recv (ci := 1) (q0 := 0) hK hP rfl rfl) hP hK hD hS hA rfl hl.1 rfl (Nat.le_of_ble_eq_true rfl) dX1_step_54 ⟨Nat.zero_le _, Nat.zero_le _⟩ (fun r3 u2 H locs hu2 hP hD hS => ?_)
              have h9 : (r3, vML u2, vMT u2) = (v_turn 1 (vML u) (vMT u)) := by rw [hu2.1.TT]; exact vt_d1 hu2.2
              have s9 : y_samT u u2 := hu2.1.T
              have gs9 : g_stp u u2 := hu2.1.gs
              have e1 : vML u2 = (v_turn 1 (vML u) (vMT u)).2.1 := congrArg (fun z => z.2.1) h9
              have e2 : vMT u2 = (v_turn 1 (vML u) (vMT u)).2.2 := congrArg (fun z => z.2.2) h9
              have e0 : r3 = (v_turn 1 (vML u) (vMT u)).1 := congrArg (fun z => z.1) h9
              have l9 : (vML u2).length ≤ yn u := by rw [e1, ← vML_len u]; exact (vt_all 1 (vML u) (vMT u)).2.1
              have hok2 : okM u2 := (hsm.tr s9).ok hg100 (by omega) (by rw [e2]; exact (vt_all 1 (vML u) (vMT u)).2.2.1 (by rw [vMT_len]; exact hok1.2.1))
              have hgl2 : g_cl (vML u2) := by rw [e1]; exact (vt_all 1 (vML u) (vMT u)).2.2.2.2 hgl
              have hy2 : yn u2 ≤ 40 := by rw [vML_len] at l9; omega
              refine lv_goto (tgt := 76) hx hb dX1_step_57 (by decide) ?_
              refine lv_istore_n (lv' := [(3, .int r3), (2, .int (nI n)), (0, .ref (q 0)), (1, .int 1)]) hx hb dX1_step_76 rfl hl (by decide) rfl (fun ls hl => ?_)
              refine lv_iload_n hx hb dX1_step_77 rfl (lv_at hl 0 rfl) ?_
              refine lv_if_le (tgt := 87) hx hb dX1_step_78 (by decide) (fun hc78 => ?_) (fun hc78 => ?_)
              · have hz : ¬ (v_turn 1 (vML u) (vMT u)).1 = 1 := fun z => le0 (e0.trans z) hc78
                refine lv_iload_n hx hb dX1_step_87 rfl (lv_at hl 1 rfl) ?_
                refine lv_istore_n (lv' := [(2, .int (nI n)), (3, .int r3), (0, .ref (q 0)), (1, .int 1)]) hx hb dX1_step_88 rfl hl (by decide) rfl (fun ls hl => ?_)
                refine lv_goto (tgt := 33) hx hb dX1_step_89 (by decide) ?_
                exact ih33 (r3, n, 0, u2) _ _ _ ⟨lv_sub hl [1, 0, 2, 3] rfl, hP, hD, hS, (h_or (by rw [e0]; exact (vt_all 1 (vML u) (vMT u)).1)), (fun z => absurd (by rw [← e0]; exact z) hz), (hsm.tr s9), (fun z => gs9 (hgs z)), hok2, hgl2, hy2, (by rw [hq, vs_0 hz, if_neg (by rw [e0]; exact hz), e1, e2, e0]), (by omega)⟩ (by show (if r3 = 1 then mu_L (vML u2) + 1 else 0) < (if hw = 1 then mu_L (vML u) + 1 else 0); rw [if_pos hw1, if_neg (by rw [e0]; exact hz)]; omega)
              · have hr1 : (v_turn 1 (vML u) (vMT u)).1 = 1 := by rw [← e0]; exact h01 (h_or (by rw [e0]; exact (vt_all 1 (vML u) (vMT u)).1)) hc78
                refine lv_iload_n hx hb dX1_step_81 rfl (lv_at hl 1 rfl) ?_
                refine lv_iconst (v := 1) hx hb dX1_step_82 (by decide) ?_
                refine xi_inc hx hb dX1_step_83 ?_
                refine lv_goto (tgt := 88) hx hb dX1_step_84 (by decide) ?_
                refine lv_istore_n (lv' := [(2, .int (nI (n + 1))), (3, .int r3), (0, .ref (q 0)), (1, .int 1)]) hx hb dX1_step_88 rfl hl (by decide) rfl (fun ls hl => ?_)
                refine lv_goto (tgt := 33) hx hb dX1_step_89 (by decide) ?_
                exact ih33 (r3, n + 1, f, u2) _ _ _ ⟨lv_sub hl [1, 0, 2, 3] rfl, hP, hD, hS, (h_or (by rw [e0]; exact (vt_all 1 (vML u) (vMT u)).1)), (fun z => by have z2 := (vt_all 1 (vML u) (vMT u)).2.2.2.1 hr1; rw [← e1] at z2; have z3 := hmu hw1; omega), (hsm.tr s9), (fun z => gs9 (hgs z)), hok2, hgl2, hy2, (by rw [hq, vs_1 hr1, ← e1, ← e2, if_pos (by rw [e0]; exact hr1)]), (by omega)⟩ (by show (if r3 = 1 then mu_L (vML u2) + 1 else 0) < (if hw = 1 then mu_L (vML u) + 1 else 0); rw [if_pos hw1, if_pos (by rw [e0]; exact hr1)]; have z2 := (vt_all 1 (vML u) (vMT u)).2.2.2.1 hr1; rw [← e1] at z2; omega)
          · exact absurd hc38 (by decide)
    · exact absurd hc7 (by decide)

set_option maxHeartbeats 4000000 in
set_option maxRecDepth 100000 in
theorem kX1_step_2 (l : Launch) (D : va_G) (q : Nat → Nat) (cA : ClassId) (S : MS) (hok : okM S) (hg : g_cl (vML S)) (hn9 : yn S ≤ 40) (sz : Nat) : xw_Mi l yX1_step wsX1_step ({ frames := 3, cells := 0, slots := 0, locals := 69 }) D vwCl [(cA, .int)] [.ref (q 0), .int 2] (wM q cA S) sz (fun (r : Int32) (u : MS) => ((r : Int32), yth u) = (if (v_steps 2 (mu_L (vML S) + 1) 0 (vML S) (vMT S)).1 = -1 then ((0 : Int32), (2 : Int32)) else (nI (v_steps 2 (mu_L (vML S) + 1) 0 (vML S) (vMT S)).2.1, 0)) ∧ vML u = (v_steps 2 (mu_L (vML S) + 1) 0 (vML S) (vMT S)).2.2.1 ∧ vMT u = (v_steps 2 (mu_L (vML S) + 1) 0 (vML S) (vMT S)).2.2.2 ∧ y_samH S u ∧ g_stp S u) (wM q cA) := by
  refine Met.ofW (cc := cX1_step) (maxL := 4) (ret := (some .int)) (by decide) rfl ?_
  intro p e s m args below meth c s₁ B hml hv
  obtain ⟨rfl, hsz, hP, hK, hD0⟩ := hv
  subst hsz
  have hD := hD0.self (sz := s.heap.size)
  have hA : ∀ z, s.heap.size ≤ z → va_A (wM q cA S) s.heap.size z := fun z h => Or.inr h
  have hS : va_S (va_A (wM q cA S) s.heap.size) s.heap s.heap [] := va_S.rf
  obtain ⟨hn40, hh200, hg100⟩ := id hok
  have hmu9 : mu_L (vML S) ≤ 1320 := by
    have z := mu_le (vML S)
    rw [vML_len] at z
    omega
  have hx := B.exec
  have hb := B.bytes
  have hr := B.returns
  have hts := atoms_spec (ws := wsX1_step) B.pre
  have hown : s.vm.findClass RX1 = some m.cls := findClass_of_methodNamed B.named
  have hlocks := B.notSynchronized
  have hinX1 : ∀ w ∈ u_ws RX1 TX1 12, w ∈ wsX1_step := fun w h => List.mem_cons_of_mem _ (bw_X1 w h)
  have hf25 := hts _ (List.mem_cons_of_mem _ bw_269)
  have hl := lv_entry ([.ref (q 0), .int 2]) (n := 4) (Nat.le_of_ble_eq_true rfl)
  rw [lg_entry_eq]
  generalize (lg_sl ([.ref (q 0), .int 2]) ++ List.replicate (4 - (lg_sl ([.ref (q 0), .int 2])).length) Slot.unset).toArray = ls at hl ⊢
  have hl : lv_has ls 4 [(0, .ref (q 0)), (1, .int 2)] := hl
  refine lv_aload_n hx hb dX1_step_0 rfl (lv_at hl 0 rfl) ?_
  refine lv_iload_n hx hb dX1_step_1 rfl (lv_at hl 1 rfl) ?_
  refine lv_if_lt (tgt := 10) hx hb dX1_step_2 (by decide) (fun hc2 => ?_) (fun hc2 => ?_)
  · exact absurd hc2 (by decide)
  · refine lv_iload_n hx hb dX1_step_5 rfl (lv_at hl 1 rfl) ?_
    refine lv_iconst (v := 3) hx hb dX1_step_6 (by decide) ?_
    refine lv_icmp_le (tgt := 14) hx hb dX1_step_7 (by decide) (fun hc7 => ?_) (fun hc7 => ?_)
    · refine lv_iconst (v := 0) hx hb dX1_step_14 (by decide) ?_
      refine va_put (v := .int 0) (ty := .int) hx hb hts hinX1 tyX1 tyX1_ok nmX1 hown hK hP hD hS 0 rfl rfl 11 (by decide) hf25 (fun _ h9 => h9) rfl (by decide +kernel) rfl rfl (Nat.le_of_ble_eq_true rfl) dX1_step_15 (fun H locs hP hD hS => ?_)
      have hP : va_P D vwCl (wM q cA (yk (yd S) (yn S) (ym S) (yh S) (yg S) (yt S) 0 (yse S) (ynu S) (yes S) (yel S) (ygi S))) H := hP
      have hD : va_D _ (wM q cA (yk (yd S) (yn S) (ym S) (yh S) (yg S) (yt S) 0 (yse S) (ynu S) (yes S) (yel S) (ygi S))) := hD
      refine lv_iconst (v := 0) hx hb dX1_step_18 (by decide) ?_
      refine lv_istore_n (lv' := [(2, .int 0), (0, .ref (q 0)), (1, .int 2)]) hx hb dX1_step_19 rfl hl (by decide) rfl (fun ls hl => ?_)
      refine lv_aload_n hx hb dX1_step_20 rfl (lv_at hl 1 rfl) ?_
      refine va_get (v := .int 0) hx hb hts hinX1 hown hK hP 0 rfl rfl 11 (by decide) hf25 (fun _ h9 => h9) rfl dX1_step_21 ?_
      refine lv_if_ne (tgt := 31) hx hb dX1_step_24 (by decide) (fun hc24 => ?_) (fun hc24 => ?_)
      · exact absurd hc24 (by decide)
      · refine lv_iconst (v := 1) hx hb dX1_step_27 (by decide) ?_
        refine lv_goto (tgt := 32) hx hb dX1_step_28 (by decide) ?_
        refine lv_istore_n (lv' := [(3, .int 1), (2, .int 0), (0, .ref (q 0)), (1, .int 2)]) hx hb dX1_step_32 rfl hl (by decide) rfl (fun ls hl => ?_)
        refine wlw (σ := Int32 × Nat × Nat × MS) (fun (x9 : Int32 × Nat × Nat × MS) (H : Heap) (locs : List Loc) ls => match x9 with | (hw, n, f, u) => lv_has ls 4 [(3, .int hw), (2, .int (nI n)), (0, .ref (q 0)), (1, .int 2)] ∧ va_P D vwCl (wM q cA u) H ∧ va_D (va_A (wM q cA S) s.heap.size) (wM q cA u) ∧ va_S (va_A (wM q cA S) s.heap.size) s.heap H locs ∧ (hw = 1 ∨ hw = 0 ∨ hw = -1) ∧ (hw = 1 → mu_L (vML u) < f) ∧ y_samT (yk (yd S) (yn S) (ym S) (yh S) (yg S) (yt S) 0 (yse S) (ynu S) (yes S) (yel S) (ygi S)) u ∧ g_stp S u ∧ okM u ∧ g_cl (vML u) ∧ yn u ≤ 40 ∧ (v_steps 2 (mu_L (vML S) + 1) 0 (vML S) (vMT S)) = (if hw = 1 then v_steps 2 f n (vML u) (vMT u) else (hw, n, vML u, vMT u)) ∧ n + f ≤ mu_L (vML S) + 1) (fun (x9 : Int32 × Nat × Nat × MS) => match x9 with | (hw, n, f, u) => (if hw = 1 then mu_L (vML u) + 1 else 0)) (1, 0, mu_L (vML S) + 1, (yk (yd S) (yn S) (ym S) (yh S) (yg S) (yt S) 0 (yse S) (ynu S) (yes S) (yel S) (ygi S))) ⟨lv_sub hl [0, 1, 2, 3] rfl, hP, hD, hS, (Or.inl rfl), (fun _ => Nat.lt_succ_self _), (y_same.rf (yk (yd S) (yn S) (ym S) (yh S) (yg S) (yt S) 0 (yse S) (ynu S) (yes S) (yel S) (ygi S))).T, g_stp.rf S, ⟨hn40, hh200, hg100⟩, hg, hn9, rfl, (by omega)⟩ ?_
        intro x9 H locs ls hI ih33
        obtain ⟨hw, n, f, u⟩ := x9
        obtain ⟨hl, hP, hD, hS, hh, hmu, hsm, hgs, hok1, hgl, hy, hq, hnf⟩ := hI
        have hl : lv_has ls 4 [(3, .int hw), (2, .int (nI n)), (0, .ref (q 0)), (1, .int 2)] := hl
        refine lv_iload_n hx hb dX1_step_33 rfl (lv_at hl 0 rfl) ?_
        refine lv_if_le (tgt := 92) hx hb dX1_step_34 (by decide) (fun hc34 => ?_) (fun hc34 => ?_)
        · have hn1 : ¬ hw = 1 := fun z => le0 z hc34
          rw [if_neg hn1] at hq
          have hth : yth u = 0 := hsm.th
          refine lv_aload_n hx hb dX1_step_92 rfl (lv_at hl 2 rfl) ?_
          refine lv_iload_n hx hb dX1_step_93 rfl (lv_at hl 0 rfl) ?_
          refine lv_if_ge (tgt := 101) hx hb dX1_step_94 (by decide) (fun hc94 => ?_) (fun hc94 => ?_)
          · have h0 : hw = 0 := h00 hh hc34 hc94
            refine lv_aload_n hx hb dX1_step_101 rfl (lv_at hl 2 rfl) ?_
            refine va_get (v := .int (yth u)) hx hb hts hinX1 hown hK hP 0 rfl rfl 11 (by decide) hf25 (fun _ h9 => h9) rfl dX1_step_102 ?_
            refine lv_topi (fun z1 ez1 => ?_)
            obtain rfl : z1 = 0 := ez1.trans hth
            refine va_put (v := .int 0) (ty := .int) hx hb hts hinX1 tyX1 tyX1_ok nmX1 hown hK hP hD hS 0 rfl rfl 11 (by decide) hf25 (fun _ h9 => h9) rfl (by decide +kernel) rfl rfl (Nat.le_of_ble_eq_true rfl) dX1_step_105 (fun H locs hP hD hS => ?_)
            have hP : va_P D vwCl (wM q cA (yk (yd u) (yn u) (ym u) (yh u) (yg u) (yt u) 0 (yse u) (ynu u) (yes u) (yel u) (ygi u))) H := hP
            have hD : va_D _ (wM q cA (yk (yd u) (yn u) (ym u) (yh u) (yg u) (yt u) 0 (yse u) (ynu u) (yes u) (yel u) (ygi u))) := hD
            refine lv_aload_n hx hb dX1_step_108 rfl (lv_at hl 2 rfl) ?_
            refine va_get (v := .int 0) hx hb hts hinX1 hown hK hP 0 rfl rfl 11 (by decide) hf25 (fun _ h9 => h9) rfl dX1_step_109 ?_
            refine lv_if_ne (tgt := 119) hx hb dX1_step_112 (by decide) (fun hc112 => ?_) (fun hc112 => ?_)
            · exact absurd hc112 (by decide)
            · refine lv_iload_n hx hb dX1_step_115 rfl (lv_at hl 1 rfl) ?_
              refine lv_goto (tgt := 120) hx hb dX1_step_116 (by decide) ?_
              have hpo : ((nI n : Int32), yth (yk (yd u) (yn u) (ym u) (yh u) (yg u) (yt u) 0 (yse u) (ynu u) (yes u) (yel u) (ygi u))) = (if (v_steps 2 (mu_L (vML S) + 1) 0 (vML S) (vMT S)).1 = -1 then ((0 : Int32), (2 : Int32)) else (nI (v_steps 2 (mu_L (vML S) + 1) 0 (vML S) (vMT S)).2.1, 0)) ∧ vML (yk (yd u) (yn u) (ym u) (yh u) (yg u) (yt u) 0 (yse u) (ynu u) (yes u) (yel u) (ygi u)) = (v_steps 2 (mu_L (vML S) + 1) 0 (vML S) (vMT S)).2.2.1 ∧ vMT (yk (yd u) (yn u) (ym u) (yh u) (yg u) (yt u) 0 (yse u) (ynu u) (yes u) (yel u) (ygi u)) = (v_steps 2 (mu_L (vML S) + 1) 0 (vML S) (vMT S)).2.2.2 ∧ y_samH S (yk (yd u) (yn u) (ym u) (yh u) (yg u) (yt u) 0 (yse u) (ynu u) (yes u) (yel u) (ygi u)) ∧ g_stp S (yk (yd u) (yn u) (ym u) (yh u) (yg u) (yt u) 0 (yse u) (ynu u) (yes u) (yel u) (ygi u)) := ⟨by rw [hq, if_neg (show ¬ hw = -1 by rw [h0]; decide)], by rw [hq], by rw [hq], hsm.H _, hgs⟩
              exact W.iret (v := (nI n)) hx hb hr (fun t ht hW => ⟨⟨(nI n), (yk (yd u) (yn u) (ym u) (yh u) (yg u) (yt u) 0 (yse u) (ynu u) (yes u) (yel u) (ygi u)), rfl, hpo, by rw [ht]; exact hP, va_K.moved hW.alike hK, hD⟩, hS.F ht⟩) hS.2.2 dX1_step_120
          · have h0 : hw = -1 := h0m hh hc34 hc94
            refine lv_iconst (v := 2) hx hb dX1_step_97 (by decide) ?_
            refine lv_goto (tgt := 105) hx hb dX1_step_98 (by decide) ?_
            refine va_put (v := .int 2) (ty := .int) hx hb hts hinX1 tyX1 tyX1_ok nmX1 hown hK hP hD hS 0 rfl rfl 11 (by decide) hf25 (fun _ h9 => h9) rfl (by decide +kernel) rfl rfl (Nat.le_of_ble_eq_true rfl) dX1_step_105 (fun H locs hP hD hS => ?_)
            have hP : va_P D vwCl (wM q cA (yk (yd u) (yn u) (ym u) (yh u) (yg u) (yt u) 2 (yse u) (ynu u) (yes u) (yel u) (ygi u))) H := hP
            have hD : va_D _ (wM q cA (yk (yd u) (yn u) (ym u) (yh u) (yg u) (yt u) 2 (yse u) (ynu u) (yes u) (yel u) (ygi u))) := hD
            refine lv_aload_n hx hb dX1_step_108 rfl (lv_at hl 2 rfl) ?_
            refine va_get (v := .int 2) hx hb hts hinX1 hown hK hP 0 rfl rfl 11 (by decide) hf25 (fun _ h9 => h9) rfl dX1_step_109 ?_
            refine lv_if_ne (tgt := 119) hx hb dX1_step_112 (by decide) (fun hc112 => ?_) (fun hc112 => ?_)
            · refine lv_iconst (v := 0) hx hb dX1_step_119 (by decide) ?_
              have hpo : ((0 : Int32), yth (yk (yd u) (yn u) (ym u) (yh u) (yg u) (yt u) 2 (yse u) (ynu u) (yes u) (yel u) (ygi u))) = (if (v_steps 2 (mu_L (vML S) + 1) 0 (vML S) (vMT S)).1 = -1 then ((0 : Int32), (2 : Int32)) else (nI (v_steps 2 (mu_L (vML S) + 1) 0 (vML S) (vMT S)).2.1, 0)) ∧ vML (yk (yd u) (yn u) (ym u) (yh u) (yg u) (yt u) 2 (yse u) (ynu u) (yes u) (yel u) (ygi u)) = (v_steps 2 (mu_L (vML S) + 1) 0 (vML S) (vMT S)).2.2.1 ∧ vMT (yk (yd u) (yn u) (ym u) (yh u) (yg u) (yt u) 2 (yse u) (ynu u) (yes u) (yel u) (ygi u)) = (v_steps 2 (mu_L (vML S) + 1) 0 (vML S) (vMT S)).2.2.2 ∧ y_samH S (yk (yd u) (yn u) (ym u) (yh u) (yg u) (yt u) 2 (yse u) (ynu u) (yes u) (yel u) (ygi u)) ∧ g_stp S (yk (yd u) (yn u) (ym u) (yh u) (yg u) (yt u) 2 (yse u) (ynu u) (yes u) (yel u) (ygi u)) := ⟨by rw [hq, if_pos h0], by rw [hq], by rw [hq], hsm.H _, hgs⟩
              exact W.iret (v := 0) hx hb hr (fun t ht hW => ⟨⟨0, (yk (yd u) (yn u) (ym u) (yh u) (yg u) (yt u) 2 (yse u) (ynu u) (yes u) (yel u) (ygi u)), rfl, hpo, by rw [ht]; exact hP, va_K.moved hW.alike hK, hD⟩, hS.F ht⟩) hS.2.2 dX1_step_120
            · exact absurd hc112 (by decide)
        · have hw1 : hw = 1 := h01 hh hc34
          rw [if_pos hw1] at hq
          obtain ⟨f, rfl⟩ : ∃ z, f = z + 1 := ⟨f - 1, by have z := hmu hw1; omega⟩
          have hl : lv_has ls 4 [(3, .int 1), (2, .int (nI n)), (0, .ref (q 0)), (1, .int 2)] := by rw [hw1] at hl; exact hl
          refine lv_iload_n hx hb dX1_step_37 rfl (lv_at hl 3 rfl) ?_
          refine lv_if_ne (tgt := 48) hx hb dX1_step_38 (by decide) (fun hc38 => ?_) (fun hc38 => ?_)
          · refine lv_iload_n hx hb dX1_step_48 rfl (lv_at hl 3 rfl) ?_
            refine lv_iconst (v := 1) hx hb dX1_step_49 (by decide) ?_
            refine lv_icmp_ne (tgt := 60) hx hb dX1_step_50 (by decide) (fun hc50 => ?_) (fun hc50 => ?_)
            · refine lv_iload_n hx hb dX1_step_60 rfl (lv_at hl 3 rfl) ?_
              refine lv_iconst (v := 2) hx hb dX1_step_61 (by decide) ?_
              refine lv_icmp_ne (tgt := 72) hx hb dX1_step_62 (by decide) (fun hc62 => ?_) (fun hc62 => ?_)
              · exact absurd hc62 (by decide)
              · refine lv_aload_n hx hb dX1_step_65 rfl (lv_at hl 2 rfl) ?_
                refine xc_wi (As := []) (rest := []) ⟨hx, hb, hml, hown, hts⟩ (kX1_strengthen l D q cA u hok1 hgl _) (cwV 0 hts (gd_V bw_334 bw_335 bw_441 bw_2 bw_336) rfl rfl rfl (by decide +kernel) ⟨Nat.le_of_ble_eq_true rfl, Nat.le_of_ble_eq_true rfl⟩) (va_recv (ci := 1) (q0 := 0) hK hP rfl rfl) hP hK hD hS hA rfl hl.1 rfl (Nat.le_of_ble_eq_true rfl) dX1_step_66 ⟨Nat.zero_le _, Nat.zero_le _⟩ (fun r3 u2 H locs hu2 hP hD hS => ?_)
                have h9 : (r3, vML u2, vMT u2) = (v_turn 2 (vML u) (vMT u)) := by rw [hu2.1.TT]; exact vt_d2 hu2.2
                have s9 : y_samT u u2 := hu2.1.T
                have gs9 : g_stp u u2 := hu2.1.gs
                have e1 : vML u2 = (v_turn 2 (vML u) (vMT u)).2.1 := congrArg (fun z => z.2.1) h9
                have e2 : vMT u2 = (v_turn 2 (vML u) (vMT u)).2.2 := congrArg (fun z => z.2.2) h9
                have e0 : r3 = (v_turn 2 (vML u) (vMT u)).1 := congrArg (fun z => z.1) h9
                have l9 : (vML u2).length ≤ yn u := by rw [e1, ← vML_len u]; exact (vt_all 2 (vML u) (vMT u)).2.1
                have hok2 : okM u2 := (hsm.tr s9).ok hg100 (by omega) (by rw [e2]; exact (vt_all 2 (vML u) (vMT u)).2.2.1 (by rw [vMT_len]; exact hok1.2.1))
                have hgl2 : g_cl (vML u2) := by rw [e1]; exact (vt_all 2 (vML u) (vMT u)).2.2.2.2 hgl
                have hy2 : yn u2 ≤ 40 := by rw [vML_len] at l9; omega
                refine lv_goto (tgt := 76) hx hb dX1_step_69 (by decide) ?_
                refine lv_istore_n (lv' := [(3, .int r3), (2, .int (nI n)), (0, .ref (q 0)), (1, .int 2)]) hx hb dX1_step_76 rfl hl (by decide) rfl (fun ls hl => ?_)
                refine lv_iload_n hx hb dX1_step_77 rfl (lv_at hl 0 rfl) ?_
                refine lv_if_le (tgt := 87) hx hb dX1_step_78 (by decide) (fun hc78 => ?_) (fun hc78 => ?_)
                · have hz : ¬ (v_turn 2 (vML u) (vMT u)).1 = 1 := fun z => le0 (e0.trans z) hc78
                  refine lv_iload_n hx hb dX1_step_87 rfl (lv_at hl 1 rfl) ?_
                  refine lv_istore_n (lv' := [(2, .int (nI n)), (3, .int r3), (0, .ref (q 0)), (1, .int 2)]) hx hb dX1_step_88 rfl hl (by decide) rfl (fun ls hl => ?_)
                  refine lv_goto (tgt := 33) hx hb dX1_step_89 (by decide) ?_
                  exact ih33 (r3, n, 0, u2) _ _ _ ⟨lv_sub hl [1, 0, 2, 3] rfl, hP, hD, hS, (h_or (by rw [e0]; exact (vt_all 2 (vML u) (vMT u)).1)), (fun z => absurd (by rw [← e0]; exact z) hz), (hsm.tr s9), (fun z => gs9 (hgs z)), hok2, hgl2, hy2, (by rw [hq, vs_0 hz, if_neg (by rw [e0]; exact hz), e1, e2, e0]), (by omega)⟩ (by show (if r3 = 1 then mu_L (vML u2) + 1 else 0) < (if hw = 1 then mu_L (vML u) + 1 else 0); rw [if_pos hw1, if_neg (by rw [e0]; exact hz)]; omega)
                · have hr1 : (v_turn 2 (vML u) (vMT u)).1 = 1 := by rw [← e0]; exact h01 (h_or (by rw [e0]; exact (vt_all 2 (vML u) (vMT u)).1)) hc78
                  refine lv_iload_n hx hb dX1_step_81 rfl (lv_at hl 1 rfl) ?_
                  refine lv_iconst (v := 1) hx hb dX1_step_82 (by decide) ?_
                  refine xi_inc hx hb dX1_step_83 ?_
                  refine lv_goto (tgt := 88) hx hb dX1_step_84 (by decide) ?_
                  refine lv_istore_n (lv' := [(2, .int (nI (n + 1))), (3, .int r3), (0, .ref (q 0)), (1, .int 2)]) hx hb dX1_step_88 rfl hl (by decide) rfl (fun ls hl => ?_)
                  refine lv_goto (tgt := 33) hx hb dX1_step_89 (by decide) ?_
                  exact ih33 (r3, n + 1, f, u2) _ _ _ ⟨lv_sub hl [1, 0, 2, 3] rfl, hP, hD, hS, (h_or (by rw [e0]; exact (vt_all 2 (vML u) (vMT u)).1)), (fun z => by have z2 := (vt_all 2 (vML u) (vMT u)).2.2.2.1 hr1; rw [← e1] at z2; have z3 := hmu hw1; omega), (hsm.tr s9), (fun z => gs9 (hgs z)), hok2, hgl2, hy2, (by rw [hq, vs_1 hr1, ← e1, ← e2, if_pos (by rw [e0]; exact hr1)]), (by omega)⟩ (by show (if r3 = 1 then mu_L (vML u2) + 1 else 0) < (if hw = 1 then mu_L (vML u) + 1 else 0); rw [if_pos hw1, if_pos (by rw [e0]; exact hr1)]; have z2 := (vt_all 2 (vML u) (vMT u)).2.2.2.1 hr1; rw [← e1] at z2; omega)
            · exact absurd hc50 (by decide)
          · exact absurd hc38 (by decide)
    · exact absurd hc7 (by decide)

set_option maxHeartbeats 4000000 in
set_option maxRecDepth 100000 in
theorem kX1_step_3 (l : Launch) (D : va_G) (q : Nat → Nat) (cA : ClassId) (S : MS) (hok : okM S) (hg : g_cl (vML S)) (hn9 : yn S ≤ 40) (sz : Nat) : xw_Mi l yX1_step wsX1_step ({ frames := 4, cells := 0, slots := 0, locals := 91 }) D vwCl [(cA, .int)] [.ref (q 0), .int 3] (wM q cA S) sz (fun (r : Int32) (u : MS) => ((r : Int32), yth u) = (if (v_steps 3 (mu_L (vML S) + 1) 0 (vML S) (vMT S)).1 = -1 then ((0 : Int32), (2 : Int32)) else (nI (v_steps 3 (mu_L (vML S) + 1) 0 (vML S) (vMT S)).2.1, 0)) ∧ vML u = (v_steps 3 (mu_L (vML S) + 1) 0 (vML S) (vMT S)).2.2.1 ∧ vMT u = (v_steps 3 (mu_L (vML S) + 1) 0 (vML S) (vMT S)).2.2.2 ∧ y_samH S u ∧ g_stp S u) (wM q cA) := by
  refine Met.ofW (cc := cX1_step) (maxL := 4) (ret := (some .int)) (by decide) rfl ?_
  intro p e s m args below meth c s₁ B hml hv
  obtain ⟨rfl, hsz, hP, hK, hD0⟩ := hv
  subst hsz
  have hD := hD0.self (sz := s.heap.size)
  have hA : ∀ z, s.heap.size ≤ z → va_A (wM q cA S) s.heap.size z := fun z h => Or.inr h
  have hS : va_S (va_A (wM q cA S) s.heap.size) s.heap s.heap [] := va_S.rf
  obtain ⟨hn40, hh200, hg100⟩ := id hok
  have hmu9 : mu_L (vML S) ≤ 1320 := by
    have z := mu_le (vML S)
    rw [vML_len] at z
    omega
  have hx := B.exec
  have hb := B.bytes
  have hr := B.returns
  have hts := atoms_spec (ws := wsX1_step) B.pre
  have hown : s.vm.findClass RX1 = some m.cls := findClass_of_methodNamed B.named
  have hlocks := B.notSynchronized
  have hinX1 : ∀ w ∈ u_ws RX1 TX1 12, w ∈ wsX1_step := fun w h => List.mem_cons_of_mem _ (bw_X1 w h)
  have hf25 := hts _ (List.mem_cons_of_mem _ bw_269)
  have hl := lv_entry ([.ref (q 0), .int 3]) (n := 4) (Nat.le_of_ble_eq_true rfl)
  rw [lg_entry_eq]
  generalize (lg_sl ([.ref (q 0), .int 3]) ++ List.replicate (4 - (lg_sl ([.ref (q 0), .int 3])).length) Slot.unset).toArray = ls at hl ⊢
  have hl : lv_has ls 4 [(0, .ref (q 0)), (1, .int 3)] := hl
  refine lv_aload_n hx hb dX1_step_0 rfl (lv_at hl 0 rfl) ?_
  refine lv_iload_n hx hb dX1_step_1 rfl (lv_at hl 1 rfl) ?_
  refine lv_if_lt (tgt := 10) hx hb dX1_step_2 (by decide) (fun hc2 => ?_) (fun hc2 => ?_)
  · exact absurd hc2 (by decide)
  · refine lv_iload_n hx hb dX1_step_5 rfl (lv_at hl 1 rfl) ?_
    refine lv_iconst (v := 3) hx hb dX1_step_6 (by decide) ?_
    refine lv_icmp_le (tgt := 14) hx hb dX1_step_7 (by decide) (fun hc7 => ?_) (fun hc7 => ?_)
    · refine lv_iconst (v := 0) hx hb dX1_step_14 (by decide) ?_
      refine va_put (v := .int 0) (ty := .int) hx hb hts hinX1 tyX1 tyX1_ok nmX1 hown hK hP hD hS 0 rfl rfl 11 (by decide) hf25 (fun _ h9 => h9) rfl (by decide +kernel) rfl rfl (Nat.le_of_ble_eq_true rfl) dX1_step_15 (fun H locs hP hD hS => ?_)
      have hP : va_P D vwCl (wM q cA (yk (yd S) (yn S) (ym S) (yh S) (yg S) (yt S) 0 (yse S) (ynu S) (yes S) (yel S) (ygi S))) H := hP
      have hD : va_D _ (wM q cA (yk (yd S) (yn S) (ym S) (yh S) (yg S) (yt S) 0 (yse S) (ynu S) (yes S) (yel S) (ygi S))) := hD
      refine lv_iconst (v := 0) hx hb dX1_step_18 (by decide) ?_
      refine lv_istore_n (lv' := [(2, .int 0), (0, .ref (q 0)), (1, .int 3)]) hx hb dX1_step_19 rfl hl (by decide) rfl (fun ls hl => ?_)
      refine lv_aload_n hx hb dX1_step_20 rfl (lv_at hl 1 rfl) ?_
      refine va_get (v := .int 0) hx hb hts hinX1 hown hK hP 0 rfl rfl 11 (by decide) hf25 (fun _ h9 => h9) rfl dX1_step_21 ?_
      refine lv_if_ne (tgt := 31) hx hb dX1_step_24 (by decide) (fun hc24 => ?_) (fun hc24 => ?_)
      · exact absurd hc24 (by decide)
      · refine lv_iconst (v := 1) hx hb dX1_step_27 (by decide) ?_
        refine lv_goto (tgt := 32) hx hb dX1_step_28 (by decide) ?_
        refine lv_istore_n (lv' := [(3, .int 1), (2, .int 0), (0, .ref (q 0)), (1, .int 3)]) hx hb dX1_step_32 rfl hl (by decide) rfl (fun ls hl => ?_)
        refine wlw (σ := Int32 × Nat × Nat × MS) (fun (x9 : Int32 × Nat × Nat × MS) (H : Heap) (locs : List Loc) ls => match x9 with | (hw, n, f, u) => lv_has ls 4 [(3, .int hw), (2, .int (nI n)), (0, .ref (q 0)), (1, .int 3)] ∧ va_P D vwCl (wM q cA u) H ∧ va_D (va_A (wM q cA S) s.heap.size) (wM q cA u) ∧ va_S (va_A (wM q cA S) s.heap.size) s.heap H locs ∧ (hw = 1 ∨ hw = 0 ∨ hw = -1) ∧ (hw = 1 → mu_L (vML u) < f) ∧ y_samT (yk (yd S) (yn S) (ym S) (yh S) (yg S) (yt S) 0 (yse S) (ynu S) (yes S) (yel S) (ygi S)) u ∧ g_stp S u ∧ okM u ∧ g_cl (vML u) ∧ yn u ≤ 40 ∧ (v_steps 3 (mu_L (vML S) + 1) 0 (vML S) (vMT S)) = (if hw = 1 then v_steps 3 f n (vML u) (vMT u) else (hw, n, vML u, vMT u)) ∧ n + f ≤ mu_L (vML S) + 1) (fun (x9 : Int32 × Nat × Nat × MS) => match x9 with | (hw, n, f, u) => (if hw = 1 then mu_L (vML u) + 1 else 0)) (1, 0, mu_L (vML S) + 1, (yk (yd S) (yn S) (ym S) (yh S) (yg S) (yt S) 0 (yse S) (ynu S) (yes S) (yel S) (ygi S))) ⟨lv_sub hl [0, 1, 2, 3] rfl, hP, hD, hS, (Or.inl rfl), (fun _ => Nat.lt_succ_self _), (y_same.rf (yk (yd S) (yn S) (ym S) (yh S) (yg S) (yt S) 0 (yse S) (ynu S) (yes S) (yel S) (ygi S))).T, g_stp.rf S, ⟨hn40, hh200, hg100⟩, hg, hn9, rfl, (by omega)⟩ ?_
        intro x9 H locs ls hI ih33
        obtain ⟨hw, n, f, u⟩ := x9
        obtain ⟨hl, hP, hD, hS, hh, hmu, hsm, hgs, hok1, hgl, hy, hq, hnf⟩ := hI
        have hl : lv_has ls 4 [(3, .int hw), (2, .int (nI n)), (0, .ref (q 0)), (1, .int 3)] := hl
        refine lv_iload_n hx hb dX1_step_33 rfl (lv_at hl 0 rfl) ?_
        refine lv_if_le (tgt := 92) hx hb dX1_step_34 (by decide) (fun hc34 => ?_) (fun hc34 => ?_)
        · have hn1 : ¬ hw = 1 := fun z => le0 z hc34
          rw [if_neg hn1] at hq
          have hth : yth u = 0 := hsm.th
          refine lv_aload_n hx hb dX1_step_92 rfl (lv_at hl 2 rfl) ?_
          refine lv_iload_n hx hb dX1_step_93 rfl (lv_at hl 0 rfl) ?_
          refine lv_if_ge (tgt := 101) hx hb dX1_step_94 (by decide) (fun hc94 => ?_) (fun hc94 => ?_)
          · have h0 : hw = 0 := h00 hh hc34 hc94
            refine lv_aload_n hx hb dX1_step_101 rfl (lv_at hl 2 rfl) ?_
            refine va_get (v := .int (yth u)) hx hb hts hinX1 hown hK hP 0 rfl rfl 11 (by decide) hf25 (fun _ h9 => h9) rfl dX1_step_102 ?_
            refine lv_topi (fun z1 ez1 => ?_)
            obtain rfl : z1 = 0 := ez1.trans hth
            refine va_put (v := .int 0) (ty := .int) hx hb hts hinX1 tyX1 tyX1_ok nmX1 hown hK hP hD hS 0 rfl rfl 11 (by decide) hf25 (fun _ h9 => h9) rfl (by decide +kernel) rfl rfl (Nat.le_of_ble_eq_true rfl) dX1_step_105 (fun H locs hP hD hS => ?_)
            have hP : va_P D vwCl (wM q cA (yk (yd u) (yn u) (ym u) (yh u) (yg u) (yt u) 0 (yse u) (ynu u) (yes u) (yel u) (ygi u))) H := hP
            have hD : va_D _ (wM q cA (yk (yd u) (yn u) (ym u) (yh u) (yg u) (yt u) 0 (yse u) (ynu u) (yes u) (yel u) (ygi u))) := hD
            refine lv_aload_n hx hb dX1_step_108 rfl (lv_at hl 2 rfl) ?_
            refine va_get (v := .int 0) hx hb hts hinX1 hown hK hP 0 rfl rfl 11 (by decide) hf25 (fun _ h9 => h9) rfl dX1_step_109 ?_
            refine lv_if_ne (tgt := 119) hx hb dX1_step_112 (by decide) (fun hc112 => ?_) (fun hc112 => ?_)
            · exact absurd hc112 (by decide)
            · refine lv_iload_n hx hb dX1_step_115 rfl (lv_at hl 1 rfl) ?_
              refine lv_goto (tgt := 120) hx hb dX1_step_116 (by decide) ?_
              have hpo : ((nI n : Int32), yth (yk (yd u) (yn u) (ym u) (yh u) (yg u) (yt u) 0 (yse u) (ynu u) (yes u) (yel u) (ygi u))) = (if (v_steps 3 (mu_L (vML S) + 1) 0 (vML S) (vMT S)).1 = -1 then ((0 : Int32), (2 : Int32)) else (nI (v_steps 3 (mu_L (vML S) + 1) 0 (vML S) (vMT S)).2.1, 0)) ∧ vML (yk (yd u) (yn u) (ym u) (yh u) (yg u) (yt u) 0 (yse u) (ynu u) (yes u) (yel u) (ygi u)) = (v_steps 3 (mu_L (vML S) + 1) 0 (vML S) (vMT S)).2.2.1 ∧ vMT (yk (yd u) (yn u) (ym u) (yh u) (yg u) (yt u) 0 (yse u) (ynu u) (yes u) (yel u) (ygi u)) = (v_steps 3 (mu_L (vML S) + 1) 0 (vML S) (vMT S)).2.2.2 ∧ y_samH S (yk (yd u) (yn u) (ym u) (yh u) (yg u) (yt u) 0 (yse u) (ynu u) (yes u) (yel u) (ygi u)) ∧ g_stp S (yk (yd u) (yn u) (ym u) (yh u) (yg u) (yt u) 0 (yse u) (ynu u) (yes u) (yel u) (ygi u)) := ⟨by rw [hq, if_neg (show ¬ hw = -1 by rw [h0]; decide)], by rw [hq], by rw [hq], hsm.H _, hgs⟩
              exact W.iret (v := (nI n)) hx hb hr (fun t ht hW => ⟨⟨(nI n), (yk (yd u) (yn u) (ym u) (yh u) (yg u) (yt u) 0 (yse u) (ynu u) (yes u) (yel u) (ygi u)), rfl, hpo, by rw [ht]; exact hP, va_K.moved hW.alike hK, hD⟩, hS.F ht⟩) hS.2.2 dX1_step_120
          · have h0 : hw = -1 := h0m hh hc34 hc94
            refine lv_iconst (v := 2) hx hb dX1_step_97 (by decide) ?_
            refine lv_goto (tgt := 105) hx hb dX1_step_98 (by decide) ?_
            refine va_put (v := .int 2) (ty := .int) hx hb hts hinX1 tyX1 tyX1_ok nmX1 hown hK hP hD hS 0 rfl rfl 11 (by decide) hf25 (fun _ h9 => h9) rfl (by decide +kernel) rfl rfl (Nat.le_of_ble_eq_true rfl) dX1_step_105 (fun H locs hP hD hS => ?_)
            have hP : va_P D vwCl (wM q cA (yk (yd u) (yn u) (ym u) (yh u) (yg u) (yt u) 2 (yse u) (ynu u) (yes u) (yel u) (ygi u))) H := hP
            have hD : va_D _ (wM q cA (yk (yd u) (yn u) (ym u) (yh u) (yg u) (yt u) 2 (yse u) (ynu u) (yes u) (yel u) (ygi u))) := hD
            refine lv_aload_n hx hb dX1_step_108 rfl (lv_at hl 2 rfl) ?_
            refine va_get (v := .int 2) hx hb hts hinX1 hown hK hP 0 rfl rfl 11 (by decide) hf25 (fun _ h9 => h9) rfl dX1_step_109 ?_
            refine lv_if_ne (tgt := 119) hx hb dX1_step_112 (by decide) (fun hc112 => ?_) (fun hc112 => ?_)
            · refine lv_iconst (v := 0) hx hb dX1_step_119 (by decide) ?_
              have hpo : ((0 : Int32), yth (yk (yd u) (yn u) (ym u) (yh u) (yg u) (yt u) 2 (yse u) (ynu u) (yes u) (yel u) (ygi u))) = (if (v_steps 3 (mu_L (vML S) + 1) 0 (vML S) (vMT S)).1 = -1 then ((0 : Int32), (2 : Int32)) else (nI (v_steps 3 (mu_L (vML S) + 1) 0 (vML S) (vMT S)).2.1, 0)) ∧ vML (yk (yd u) (yn u) (ym u) (yh u) (yg u) (yt u) 2 (yse u) (ynu u) (yes u) (yel u) (ygi u)) = (v_steps 3 (mu_L (vML S) + 1) 0 (vML S) (vMT S)).2.2.1 ∧ vMT (yk (yd u) (yn u) (ym u) (yh u) (yg u) (yt u) 2 (yse u) (ynu u) (yes u) (yel u) (ygi u)) = (v_steps 3 (mu_L (vML S) + 1) 0 (vML S) (vMT S)).2.2.2 ∧ y_samH S (yk (yd u) (yn u) (ym u) (yh u) (yg u) (yt u) 2 (yse u) (ynu u) (yes u) (yel u) (ygi u)) ∧ g_stp S (yk (yd u) (yn u) (ym u) (yh u) (yg u) (yt u) 2 (yse u) (ynu u) (yes u) (yel u) (ygi u)) := ⟨by rw [hq, if_pos h0], by rw [hq], by rw [hq], hsm.H _, hgs⟩
              exact W.iret (v := 0) hx hb hr (fun t ht hW => ⟨⟨0, (yk (yd u) (yn u) (ym u) (yh u) (yg u) (yt u) 2 (yse u) (ynu u) (yes u) (yel u) (ygi u)), rfl, hpo, by rw [ht]; exact hP, va_K.moved hW.alike hK, hD⟩, hS.F ht⟩) hS.2.2 dX1_step_120
            · exact absurd hc112 (by decide)
        · have hw1 : hw = 1 := h01 hh hc34
          rw [if_pos hw1] at hq
          obtain ⟨f, rfl⟩ : ∃ z, f = z + 1 := ⟨f - 1, by have z := hmu hw1; omega⟩
          have hl : lv_has ls 4 [(3, .int 1), (2, .int (nI n)), (0, .ref (q 0)), (1, .int 3)] := by rw [hw1] at hl; exact hl
          refine lv_iload_n hx hb dX1_step_37 rfl (lv_at hl 3 rfl) ?_
          refine lv_if_ne (tgt := 48) hx hb dX1_step_38 (by decide) (fun hc38 => ?_) (fun hc38 => ?_)
          · refine lv_iload_n hx hb dX1_step_48 rfl (lv_at hl 3 rfl) ?_
            refine lv_iconst (v := 1) hx hb dX1_step_49 (by decide) ?_
            refine lv_icmp_ne (tgt := 60) hx hb dX1_step_50 (by decide) (fun hc50 => ?_) (fun hc50 => ?_)
            · refine lv_iload_n hx hb dX1_step_60 rfl (lv_at hl 3 rfl) ?_
              refine lv_iconst (v := 2) hx hb dX1_step_61 (by decide) ?_
              refine lv_icmp_ne (tgt := 72) hx hb dX1_step_62 (by decide) (fun hc62 => ?_) (fun hc62 => ?_)
              · refine lv_aload_n hx hb dX1_step_72 rfl (lv_at hl 2 rfl) ?_
                refine xc_wi (As := []) (rest := []) ⟨hx, hb, hml, hown, hts⟩ (kX1_block l D q cA u hok1 hgl _) (cwV 0 hts (gd_V bw_340 bw_341 bw_442 bw_2 bw_342) rfl rfl rfl (by decide +kernel) ⟨Nat.le_of_ble_eq_true rfl, Nat.le_of_ble_eq_true rfl⟩) (va_recv (ci := 1) (q0 := 0) hK hP rfl rfl) hP hK hD hS hA rfl hl.1 rfl (Nat.le_of_ble_eq_true rfl) dX1_step_73 ⟨Nat.zero_le _, Nat.zero_le _⟩ (fun r3 u2 H locs hu2 hP hD hS => ?_)
                have h9 : (r3, vML u2, vMT u2) = (v_turn 3 (vML u) (vMT u)) := hu2.2.2
                have s9 : y_samT u u2 := hu2.1
                have gs9 : g_stp u u2 := hu2.2.1
                have e1 : vML u2 = (v_turn 3 (vML u) (vMT u)).2.1 := congrArg (fun z => z.2.1) h9
                have e2 : vMT u2 = (v_turn 3 (vML u) (vMT u)).2.2 := congrArg (fun z => z.2.2) h9
                have e0 : r3 = (v_turn 3 (vML u) (vMT u)).1 := congrArg (fun z => z.1) h9
                have l9 : (vML u2).length ≤ yn u := by rw [e1, ← vML_len u]; exact (vt_all 3 (vML u) (vMT u)).2.1
                have hok2 : okM u2 := (hsm.tr s9).ok hg100 (by omega) (by rw [e2]; exact (vt_all 3 (vML u) (vMT u)).2.2.1 (by rw [vMT_len]; exact hok1.2.1))
                have hgl2 : g_cl (vML u2) := by rw [e1]; exact (vt_all 3 (vML u) (vMT u)).2.2.2.2 hgl
                have hy2 : yn u2 ≤ 40 := by rw [vML_len] at l9; omega
                refine lv_istore_n (lv' := [(3, .int r3), (2, .int (nI n)), (0, .ref (q 0)), (1, .int 3)]) hx hb dX1_step_76 rfl hl (by decide) rfl (fun ls hl => ?_)
                refine lv_iload_n hx hb dX1_step_77 rfl (lv_at hl 0 rfl) ?_
                refine lv_if_le (tgt := 87) hx hb dX1_step_78 (by decide) (fun hc78 => ?_) (fun hc78 => ?_)
                · have hz : ¬ (v_turn 3 (vML u) (vMT u)).1 = 1 := fun z => le0 (e0.trans z) hc78
                  refine lv_iload_n hx hb dX1_step_87 rfl (lv_at hl 1 rfl) ?_
                  refine lv_istore_n (lv' := [(2, .int (nI n)), (3, .int r3), (0, .ref (q 0)), (1, .int 3)]) hx hb dX1_step_88 rfl hl (by decide) rfl (fun ls hl => ?_)
                  refine lv_goto (tgt := 33) hx hb dX1_step_89 (by decide) ?_
                  exact ih33 (r3, n, 0, u2) _ _ _ ⟨lv_sub hl [1, 0, 2, 3] rfl, hP, hD, hS, (h_or (by rw [e0]; exact (vt_all 3 (vML u) (vMT u)).1)), (fun z => absurd (by rw [← e0]; exact z) hz), (hsm.tr s9), (fun z => gs9 (hgs z)), hok2, hgl2, hy2, (by rw [hq, vs_0 hz, if_neg (by rw [e0]; exact hz), e1, e2, e0]), (by omega)⟩ (by show (if r3 = 1 then mu_L (vML u2) + 1 else 0) < (if hw = 1 then mu_L (vML u) + 1 else 0); rw [if_pos hw1, if_neg (by rw [e0]; exact hz)]; omega)
                · have hr1 : (v_turn 3 (vML u) (vMT u)).1 = 1 := by rw [← e0]; exact h01 (h_or (by rw [e0]; exact (vt_all 3 (vML u) (vMT u)).1)) hc78
                  refine lv_iload_n hx hb dX1_step_81 rfl (lv_at hl 1 rfl) ?_
                  refine lv_iconst (v := 1) hx hb dX1_step_82 (by decide) ?_
                  refine xi_inc hx hb dX1_step_83 ?_
                  refine lv_goto (tgt := 88) hx hb dX1_step_84 (by decide) ?_
                  refine lv_istore_n (lv' := [(2, .int (nI (n + 1))), (3, .int r3), (0, .ref (q 0)), (1, .int 3)]) hx hb dX1_step_88 rfl hl (by decide) rfl (fun ls hl => ?_)
                  refine lv_goto (tgt := 33) hx hb dX1_step_89 (by decide) ?_
                  exact ih33 (r3, n + 1, f, u2) _ _ _ ⟨lv_sub hl [1, 0, 2, 3] rfl, hP, hD, hS, (h_or (by rw [e0]; exact (vt_all 3 (vML u) (vMT u)).1)), (fun z => by have z2 := (vt_all 3 (vML u) (vMT u)).2.2.2.1 hr1; rw [← e1] at z2; have z3 := hmu hw1; omega), (hsm.tr s9), (fun z => gs9 (hgs z)), hok2, hgl2, hy2, (by rw [hq, vs_1 hr1, ← e1, ← e2, if_pos (by rw [e0]; exact hr1)]), (by omega)⟩ (by show (if r3 = 1 then mu_L (vML u2) + 1 else 0) < (if hw = 1 then mu_L (vML u) + 1 else 0); rw [if_pos hw1, if_pos (by rw [e0]; exact hr1)]; have z2 := (vt_all 3 (vML u) (vMT u)).2.2.2.1 hr1; rw [← e1] at z2; omega)
              · exact absurd hc62 (by decide)
            · exact absurd hc50 (by decide)
          · exact absurd hc38 (by decide)
    · exact absurd hc7 (by decide)

set_option maxHeartbeats 4000000 in
set_option maxRecDepth 100000 in
theorem kX1_step_no (l : Launch) (D : va_G) (q : Nat → Nat) (cA : ClassId) (S : MS) (hok : okM S) (x : Int32) (hx9 : x < 0 ∨ 3 < x) (sz : Nat) : xw_Mi l yX1_step wsX1_step ({ frames := 0, cells := 0, slots := 0, locals := 0 }) D vwCl [(cA, .int)] [.ref (q 0), .int x] (wM q cA S) sz (fun (r : Int32) (u : MS) => (r : Int32) = 0 ∧ u = (yk (yd S) (yn S) (ym S) (yh S) (yg S) (yt S) 1 (yse S) (ynu S) (yes S) (yel S) (ygi S))) (wM q cA) := by
  refine Met.ofW (cc := cX1_step) (maxL := 4) (ret := (some .int)) (by decide) rfl ?_
  intro p e s m args below meth c s₁ B hml hv
  obtain ⟨rfl, hsz, hP, hK, hD0⟩ := hv
  subst hsz
  have hD := hD0.self (sz := s.heap.size)
  have hA : ∀ z, s.heap.size ≤ z → va_A (wM q cA S) s.heap.size z := fun z h => Or.inr h
  have hS : va_S (va_A (wM q cA S) s.heap.size) s.heap s.heap [] := va_S.rf
  obtain ⟨hn40, hh200, hg100⟩ := id hok
  have hx := B.exec
  have hb := B.bytes
  have hr := B.returns
  have hts := atoms_spec (ws := wsX1_step) B.pre
  have hown : s.vm.findClass RX1 = some m.cls := findClass_of_methodNamed B.named
  have hlocks := B.notSynchronized
  have hinX1 : ∀ w ∈ u_ws RX1 TX1 12, w ∈ wsX1_step := fun w h => List.mem_cons_of_mem _ (bw_X1 w h)
  have hf25 := hts _ (List.mem_cons_of_mem _ bw_269)
  have hl := lv_entry ([.ref (q 0), .int x]) (n := 4) (Nat.le_of_ble_eq_true rfl)
  rw [lg_entry_eq]
  generalize (lg_sl ([.ref (q 0), .int x]) ++ List.replicate (4 - (lg_sl ([.ref (q 0), .int x])).length) Slot.unset).toArray = ls at hl ⊢
  have hl : lv_has ls 4 [(0, .ref (q 0)), (1, .int x)] := hl
  refine lv_aload_n hx hb dX1_step_0 rfl (lv_at hl 0 rfl) ?_
  refine lv_iload_n hx hb dX1_step_1 rfl (lv_at hl 1 rfl) ?_
  refine lv_if_lt (tgt := 10) hx hb dX1_step_2 (by decide) (fun hc2 => ?_) (fun hc2 => ?_)
  · refine lv_iconst (v := 1) hx hb dX1_step_10 (by decide) ?_
    refine lv_goto (tgt := 15) hx hb dX1_step_11 (by decide) ?_
    refine va_put (v := .int 1) (ty := .int) hx hb hts hinX1 tyX1 tyX1_ok nmX1 hown hK hP hD hS 0 rfl rfl 11 (by decide) hf25 (fun _ h9 => h9) rfl (by decide +kernel) rfl rfl (Nat.le_of_ble_eq_true rfl) dX1_step_15 (fun H locs hP hD hS => ?_)
    have hP : va_P D vwCl (wM q cA (yk (yd S) (yn S) (ym S) (yh S) (yg S) (yt S) 1 (yse S) (ynu S) (yes S) (yel S) (ygi S))) H := hP
    have hD : va_D _ (wM q cA (yk (yd S) (yn S) (ym S) (yh S) (yg S) (yt S) 1 (yse S) (ynu S) (yes S) (yel S) (ygi S))) := hD
    refine lv_iconst (v := 0) hx hb dX1_step_18 (by decide) ?_
    refine lv_istore_n (lv' := [(2, .int 0), (0, .ref (q 0)), (1, .int x)]) hx hb dX1_step_19 rfl hl (by decide) rfl (fun ls hl => ?_)
    refine lv_aload_n hx hb dX1_step_20 rfl (lv_at hl 1 rfl) ?_
    refine va_get (v := .int 1) hx hb hts hinX1 hown hK hP 0 rfl rfl 11 (by decide) hf25 (fun _ h9 => h9) rfl dX1_step_21 ?_
    refine lv_if_ne (tgt := 31) hx hb dX1_step_24 (by decide) (fun hc24 => ?_) (fun hc24 => ?_)
    · refine lv_iconst (v := 0) hx hb dX1_step_31 (by decide) ?_
      refine lv_istore_n (lv' := [(3, .int 0), (2, .int 0), (0, .ref (q 0)), (1, .int x)]) hx hb dX1_step_32 rfl hl (by decide) rfl (fun ls hl => ?_)
      refine lv_iload_n hx hb dX1_step_33 rfl (lv_at hl 0 rfl) ?_
      refine lv_if_le (tgt := 92) hx hb dX1_step_34 (by decide) (fun hc34 => ?_) (fun hc34 => ?_)
      · refine lv_aload_n hx hb dX1_step_92 rfl (lv_at hl 2 rfl) ?_
        refine lv_iload_n hx hb dX1_step_93 rfl (lv_at hl 0 rfl) ?_
        refine lv_if_ge (tgt := 101) hx hb dX1_step_94 (by decide) (fun hc94 => ?_) (fun hc94 => ?_)
        · refine lv_aload_n hx hb dX1_step_101 rfl (lv_at hl 2 rfl) ?_
          refine va_get (v := .int 1) hx hb hts hinX1 hown hK hP 0 rfl rfl 11 (by decide) hf25 (fun _ h9 => h9) rfl dX1_step_102 ?_
          refine va_put (v := .int 1) (ty := .int) hx hb hts hinX1 tyX1 tyX1_ok nmX1 hown hK hP hD hS 0 rfl rfl 11 (by decide) hf25 (fun _ h9 => h9) rfl (by decide +kernel) rfl rfl (Nat.le_of_ble_eq_true rfl) dX1_step_105 (fun H locs hP hD hS => ?_)
          have hP : va_P D vwCl (wM q cA (yk (yd S) (yn S) (ym S) (yh S) (yg S) (yt S) 1 (yse S) (ynu S) (yes S) (yel S) (ygi S))) H := hP
          have hD : va_D _ (wM q cA (yk (yd S) (yn S) (ym S) (yh S) (yg S) (yt S) 1 (yse S) (ynu S) (yes S) (yel S) (ygi S))) := hD
          refine lv_aload_n hx hb dX1_step_108 rfl (lv_at hl 2 rfl) ?_
          refine va_get (v := .int 1) hx hb hts hinX1 hown hK hP 0 rfl rfl 11 (by decide) hf25 (fun _ h9 => h9) rfl dX1_step_109 ?_
          refine lv_if_ne (tgt := 119) hx hb dX1_step_112 (by decide) (fun hc112 => ?_) (fun hc112 => ?_)
          · refine lv_iconst (v := 0) hx hb dX1_step_119 (by decide) ?_
            have hpo : (0 : Int32) = 0 ∧ (yk (yd S) (yn S) (ym S) (yh S) (yg S) (yt S) 1 (yse S) (ynu S) (yes S) (yel S) (ygi S)) = (yk (yd S) (yn S) (ym S) (yh S) (yg S) (yt S) 1 (yse S) (ynu S) (yes S) (yel S) (ygi S)) := ⟨rfl, rfl⟩
            exact W.iret (v := 0) hx hb hr (fun t ht hW => ⟨⟨0, (yk (yd S) (yn S) (ym S) (yh S) (yg S) (yt S) 1 (yse S) (ynu S) (yes S) (yel S) (ygi S)), rfl, hpo, by rw [ht]; exact hP, va_K.moved hW.alike hK, hD⟩, hS.F ht⟩) hS.2.2 dX1_step_120
          · exact absurd hc112 (by decide)
        · exact absurd hc94 (by decide)
      · exact absurd hc34 (by decide)
    · exact absurd hc24 (by decide)
  · refine lv_iload_n hx hb dX1_step_5 rfl (lv_at hl 1 rfl) ?_
    refine lv_iconst (v := 3) hx hb dX1_step_6 (by decide) ?_
    refine lv_icmp_le (tgt := 14) hx hb dX1_step_7 (by decide) (fun hc7 => ?_) (fun hc7 => ?_)
    · exact hx9.elim (fun z => absurd z hc2) (fun z => absurd z (Int32.not_lt.mpr hc7))
    · refine lv_iconst (v := 1) hx hb dX1_step_10 (by decide) ?_
      refine lv_goto (tgt := 15) hx hb dX1_step_11 (by decide) ?_
      refine va_put (v := .int 1) (ty := .int) hx hb hts hinX1 tyX1 tyX1_ok nmX1 hown hK hP hD hS 0 rfl rfl 11 (by decide) hf25 (fun _ h9 => h9) rfl (by decide +kernel) rfl rfl (Nat.le_of_ble_eq_true rfl) dX1_step_15 (fun H locs hP hD hS => ?_)
      have hP : va_P D vwCl (wM q cA (yk (yd S) (yn S) (ym S) (yh S) (yg S) (yt S) 1 (yse S) (ynu S) (yes S) (yel S) (ygi S))) H := hP
      have hD : va_D _ (wM q cA (yk (yd S) (yn S) (ym S) (yh S) (yg S) (yt S) 1 (yse S) (ynu S) (yes S) (yel S) (ygi S))) := hD
      refine lv_iconst (v := 0) hx hb dX1_step_18 (by decide) ?_
      refine lv_istore_n (lv' := [(2, .int 0), (0, .ref (q 0)), (1, .int x)]) hx hb dX1_step_19 rfl hl (by decide) rfl (fun ls hl => ?_)
      refine lv_aload_n hx hb dX1_step_20 rfl (lv_at hl 1 rfl) ?_
      refine va_get (v := .int 1) hx hb hts hinX1 hown hK hP 0 rfl rfl 11 (by decide) hf25 (fun _ h9 => h9) rfl dX1_step_21 ?_
      refine lv_if_ne (tgt := 31) hx hb dX1_step_24 (by decide) (fun hc24 => ?_) (fun hc24 => ?_)
      · refine lv_iconst (v := 0) hx hb dX1_step_31 (by decide) ?_
        refine lv_istore_n (lv' := [(3, .int 0), (2, .int 0), (0, .ref (q 0)), (1, .int x)]) hx hb dX1_step_32 rfl hl (by decide) rfl (fun ls hl => ?_)
        refine lv_iload_n hx hb dX1_step_33 rfl (lv_at hl 0 rfl) ?_
        refine lv_if_le (tgt := 92) hx hb dX1_step_34 (by decide) (fun hc34 => ?_) (fun hc34 => ?_)
        · refine lv_aload_n hx hb dX1_step_92 rfl (lv_at hl 2 rfl) ?_
          refine lv_iload_n hx hb dX1_step_93 rfl (lv_at hl 0 rfl) ?_
          refine lv_if_ge (tgt := 101) hx hb dX1_step_94 (by decide) (fun hc94 => ?_) (fun hc94 => ?_)
          · refine lv_aload_n hx hb dX1_step_101 rfl (lv_at hl 2 rfl) ?_
            refine va_get (v := .int 1) hx hb hts hinX1 hown hK hP 0 rfl rfl 11 (by decide) hf25 (fun _ h9 => h9) rfl dX1_step_102 ?_
            refine va_put (v := .int 1) (ty := .int) hx hb hts hinX1 tyX1 tyX1_ok nmX1 hown hK hP hD hS 0 rfl rfl 11 (by decide) hf25 (fun _ h9 => h9) rfl (by decide +kernel) rfl rfl (Nat.le_of_ble_eq_true rfl) dX1_step_105 (fun H locs hP hD hS => ?_)
            have hP : va_P D vwCl (wM q cA (yk (yd S) (yn S) (ym S) (yh S) (yg S) (yt S) 1 (yse S) (ynu S) (yes S) (yel S) (ygi S))) H := hP
            have hD : va_D _ (wM q cA (yk (yd S) (yn S) (ym S) (yh S) (yg S) (yt S) 1 (yse S) (ynu S) (yes S) (yel S) (ygi S))) := hD
            refine lv_aload_n hx hb dX1_step_108 rfl (lv_at hl 2 rfl) ?_
            refine va_get (v := .int 1) hx hb hts hinX1 hown hK hP 0 rfl rfl 11 (by decide) hf25 (fun _ h9 => h9) rfl dX1_step_109 ?_
            refine lv_if_ne (tgt := 119) hx hb dX1_step_112 (by decide) (fun hc112 => ?_) (fun hc112 => ?_)
            · refine lv_iconst (v := 0) hx hb dX1_step_119 (by decide) ?_
              have hpo : (0 : Int32) = 0 ∧ (yk (yd S) (yn S) (ym S) (yh S) (yg S) (yt S) 1 (yse S) (ynu S) (yes S) (yel S) (ygi S)) = (yk (yd S) (yn S) (ym S) (yh S) (yg S) (yt S) 1 (yse S) (ynu S) (yes S) (yel S) (ygi S)) := ⟨rfl, rfl⟩
              exact W.iret (v := 0) hx hb hr (fun t ht hW => ⟨⟨0, (yk (yd S) (yn S) (ym S) (yh S) (yg S) (yt S) 1 (yse S) (ynu S) (yes S) (yel S) (ygi S)), rfl, hpo, by rw [ht]; exact hP, va_K.moved hW.alike hK, hD⟩, hS.F ht⟩) hS.2.2 dX1_step_120
            · exact absurd hc112 (by decide)
          · exact absurd hc94 (by decide)
        · exact absurd hc34 (by decide)
      · exact absurd hc24 (by decide)
