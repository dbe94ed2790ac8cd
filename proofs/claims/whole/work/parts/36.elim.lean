/-! The class: eliminate. -/
set_option maxHeartbeats 4000000 in
set_option maxRecDepth 100000 in
theorem kX0_eliminate_no (l : Launch) (D : va_G) (q : Nat → Nat) (cA : ClassId) (S : XS) (hok : okX S) (v : Nat) (h1 : 1 ≤ v) (h2 : v ≤ 10) (hg2 : q_g2 (vXL S) (nI v) (q_cw (vXL S) (k_both (nI v))) (xn S) 0 [] = none) (sz : Nat) : xw_Mi l yX0_eliminate wsX0_eliminate ({ frames := 4, cells := 0, slots := 0, locals := 95 }) D vwCl [(cA, .int)] [.ref (q 0), .int (nI v)] (wX q cA S) sz (fun (r : Int32) (f : Nat → Int32) => (r : Int32) = -1) (fun f => wX q cA (xk (xd S) (xt S) (xn S) (xm S) (xh S) (xg S) (xse S) (xnu S) (xes S) (xel S) (xgi S) f)) := by
  refine Met.ofW (cc := cX0_eliminate) (maxL := 4) (ret := (some .int)) (by decide) rfl ?_
  intro p e s m args below meth c s₁ B hml hv
  obtain ⟨rfl, hsz, hP, hK, hD0⟩ := hv
  subst hsz
  have hD := hD0.self (sz := s.heap.size)
  have hA : ∀ z, s.heap.size ≤ z → va_A (wX q cA S) s.heap.size z := fun z h => Or.inr h
  have hS : va_S (va_A (wX q cA S) s.heap.size) s.heap s.heap [] := va_S.rf
  obtain ⟨hn40, hh200, hg100⟩ := id hok
  have hx := B.exec
  have hb := B.bytes
  have hr := B.returns
  have hts := atoms_spec (ws := wsX0_eliminate) B.pre
  have hown : s.vm.findClass RX0 = some m.cls := findClass_of_methodNamed B.named
  have hlocks := B.notSynchronized
  have hl := lv_entry ([.ref (q 0), .int (nI v)]) (n := 4) (Nat.le_of_ble_eq_true rfl)
  rw [lg_entry_eq]
  generalize (lg_sl ([.ref (q 0), .int (nI v)]) ++ List.replicate (4 - (lg_sl ([.ref (q 0), .int (nI v)])).length) Slot.unset).toArray = ls at hl ⊢
  have hl : lv_has ls 4 [(0, .ref (q 0)), (1, .int (nI v))] := hl
  refine lv_iload_n hx hb dX0_eliminate_0 rfl (lv_at hl 1 rfl) ?_
  refine xc_s (As := [.int (nI v)]) (rest := []) ⟨hx, hb, hml, hown, hts⟩ (kX0_isVariable l (nI v)) (va_cwS 1 hts (gd_S bw_206 bw_207 bw_1 bw_208) rfl rfl rfl (by decide +kernel) ⟨Nat.le_of_ble_eq_true rfl, Nat.le_of_ble_eq_true rfl⟩) rfl hl.1 rfl (Nat.le_of_ble_eq_true rfl) dX0_eliminate_1 ⟨Nat.zero_le _, Nat.zero_le _⟩ ?_
  refine lv_if_ne (tgt := 17) hx hb dX0_eliminate_4 (by decide) (fun hc4 => ?_) (fun hc4 => ?_)
  · refine lv_aload_n hx hb dX0_eliminate_17 rfl (lv_at hl 0 rfl) ?_
    refine lv_iload_n hx hb dX0_eliminate_18 rfl (lv_at hl 1 rfl) ?_
    refine xc_wi (As := [.int (nI v)]) (rest := []) ⟨hx, hb, hml, hown, hts⟩ (kX0_gatherResolvents l D q cA S hok (nI v) _) (cwV 1 hts (gd_V bw_209 bw_210 bw_430 bw_1 bw_211) rfl rfl rfl (by decide +kernel) ⟨Nat.le_of_ble_eq_true rfl, Nat.le_of_ble_eq_true rfl⟩) (va_recv (ci := 0) (q0 := 0) hK hP rfl rfl) hP hK hD hS hA rfl hl.1 rfl (Nat.le_of_ble_eq_true rfl) dX0_eliminate_19 ⟨Nat.zero_le _, Nat.zero_le _⟩ (fun r1 f1 H locs hf1 hP hD hS => ?_)
    have hP : va_P D vwCl (wX q cA (xk (xd S) (xt S) (xn S) (xm S) (xh S) (xg S) (xse S) (xnu S) (xes S) (xel S) (xgi S) f1)) H := hP
    have hD : va_D _ (wX q cA (xk (xd S) (xt S) (xn S) (xm S) (xh S) (xg S) (xse S) (xnu S) (xes S) (xel S) (xgi S) f1)) := hD
    have hr1 : r1 = -1 := by
      have z : q_post (q_g2 (vXL S) (nI v) (q_cw (vXL S) (k_both (nI v))) (xn S) 0 []) (q_cw (vXL S) (k_both (nI v))) r1 f1 := hf1
      rw [hg2] at z
      exact z
    refine lv_istore_n (lv' := [(2, .int r1), (0, .ref (q 0)), (1, .int (nI v))]) hx hb dX0_eliminate_22 rfl hl (by decide) rfl (fun ls hl => ?_)
    refine lv_iload_n hx hb dX0_eliminate_23 rfl (lv_at hl 0 rfl) ?_
    refine lv_iconst (v := (-1)) hx hb dX0_eliminate_24 (by decide) ?_
    refine lv_icmp_ne (tgt := 30) hx hb dX0_eliminate_25 (by decide) (fun hc25 => ?_) (fun hc25 => ?_)
    · exact absurd hr1 hc25
    · refine lv_iconst (v := (-1)) hx hb dX0_eliminate_28 (by decide) ?_
      have hpo : ((-1) : Int32) = -1 := rfl
      exact W.iret (v := (-1)) hx hb hr (fun t ht hW => ⟨⟨(-1), f1, rfl, hpo, by rw [ht]; exact hP, va_K.moved hW.alike hK, hD⟩, hS.F ht⟩) hS.2.2 dX0_eliminate_29
  · exact absurd (kb_0.mp hc4) (by rw [isV_nI v (by omega) h1]; decide)

set_option maxHeartbeats 4000000 in
set_option maxRecDepth 100000 in
theorem kX0_eliminate_do (l : Launch) (D : va_G) (q : Nat → Nat) (cA : ClassId) (S : XS) (hok : okX S) (v : Nat) (h1 : 1 ≤ v) (h2 : v ≤ 10) (R : List Int32) (hg2 : q_g2 (vXL S) (nI v) (q_cw (vXL S) (k_both (nI v))) (xn S) 0 [] = some R) (hroom : xh S + q_cw (vXL S) (k_pos (nI v)) + 1 ≤ 200) (sz : Nat) : xw_Mi l yX0_eliminate wsX0_eliminate ({ frames := 4, cells := 0, slots := 0, locals := 95 }) D vwCl [(cA, .int)] [.ref (q 0), .int (nI v)] (wX q cA S) sz (fun (r : Int32) (u : XS) => r = nI R.length ∧ vXL u = q_app ((vXL S).filter (fun c => (c.1 &&& k_both (nI v)) == 0)) (xm S) R ∧ xm u = q_mm (xm S) R ∧ vXT u = (vXT S ++ q_pal (k_pos (nI v)) (vXL S)) ++ [(k_neg (nI v), k_neg (nI v))] ∧ xd u = xd S ∧ xt u = xt S ∧ xg u = xg S ∧ xgi u = xgi S) (wX q cA) := by
  refine Met.ofW (cc := cX0_eliminate) (maxL := 4) (ret := (some .int)) (by decide) rfl ?_
  intro p e s m args below meth c s₁ B hml hv
  obtain ⟨rfl, hsz, hP, hK, hD0⟩ := hv
  subst hsz
  have hD := hD0.self (sz := s.heap.size)
  have hA : ∀ z, s.heap.size ≤ z → va_A (wX q cA S) s.heap.size z := fun z h => Or.inr h
  have hS : va_S (va_A (wX q cA S) s.heap.size) s.heap s.heap [] := va_S.rf
  obtain ⟨hn40, hh200, hg100⟩ := id hok
  have hM9 : (q_cw (vXL S) (k_both (nI v))) ≤ 40 := by
    have z := q_cw_le (vXL S) (k_both (nI v))
    rw [vXL_len] at z
    omega
  have hx := B.exec
  have hb := B.bytes
  have hr := B.returns
  have hts := atoms_spec (ws := wsX0_eliminate) B.pre
  have hown : s.vm.findClass RX0 = some m.cls := findClass_of_methodNamed B.named
  have hlocks := B.notSynchronized
  have hinX0 : ∀ w ∈ u_ws RX0 TX0 12, w ∈ wsX0_eliminate := fun w h => List.mem_cons_of_mem _ (bw_X0 w h)
  have hf25 := hts _ (List.mem_cons_of_mem _ bw_30)
  have hf149 := hts _ (List.mem_cons_of_mem _ bw_27)
  have hl := lv_entry ([.ref (q 0), .int (nI v)]) (n := 4) (Nat.le_of_ble_eq_true rfl)
  rw [lg_entry_eq]
  generalize (lg_sl ([.ref (q 0), .int (nI v)]) ++ List.replicate (4 - (lg_sl ([.ref (q 0), .int (nI v)])).length) Slot.unset).toArray = ls at hl ⊢
  have hl : lv_has ls 4 [(0, .ref (q 0)), (1, .int (nI v))] := hl
  refine lv_iload_n hx hb dX0_eliminate_0 rfl (lv_at hl 1 rfl) ?_
  refine xc_s (As := [.int (nI v)]) (rest := []) ⟨hx, hb, hml, hown, hts⟩ (kX0_isVariable l (nI v)) (va_cwS 1 hts (gd_S bw_206 bw_207 bw_1 bw_208) rfl rfl rfl (by decide +kernel) ⟨Nat.le_of_ble_eq_true rfl, Nat.le_of_ble_eq_true rfl⟩) rfl hl.1 rfl (Nat.le_of_ble_eq_true rfl) dX0_eliminate_1 ⟨Nat.zero_le _, Nat.zero_le _⟩ ?_
  refine lv_if_ne (tgt := 17) hx hb dX0_eliminate_4 (by decide) (fun hc4 => ?_) (fun hc4 => ?_)
  · refine lv_aload_n hx hb dX0_eliminate_17 rfl (lv_at hl 0 rfl) ?_
    refine lv_iload_n hx hb dX0_eliminate_18 rfl (lv_at hl 1 rfl) ?_
    refine xc_wi (As := [.int (nI v)]) (rest := []) ⟨hx, hb, hml, hown, hts⟩ (kX0_gatherResolvents l D q cA S hok (nI v) _) (cwV 1 hts (gd_V bw_209 bw_210 bw_430 bw_1 bw_211) rfl rfl rfl (by decide +kernel) ⟨Nat.le_of_ble_eq_true rfl, Nat.le_of_ble_eq_true rfl⟩) (va_recv (ci := 0) (q0 := 0) hK hP rfl rfl) hP hK hD hS hA rfl hl.1 rfl (Nat.le_of_ble_eq_true rfl) dX0_eliminate_19 ⟨Nat.zero_le _, Nat.zero_le _⟩ (fun r1 f1 H locs hf1 hP hD hS => ?_)
    have hP : va_P D vwCl (wX q cA (xk (xd S) (xt S) (xn S) (xm S) (xh S) (xg S) (xse S) (xnu S) (xes S) (xel S) (xgi S) f1)) H := hP
    have hD : va_D _ (wX q cA (xk (xd S) (xt S) (xn S) (xm S) (xh S) (xg S) (xse S) (xnu S) (xes S) (xel S) (xgi S) f1)) := hD
    obtain ⟨rfl, hR, hRm⟩ : r1 = nI R.length ∧ cl_lst R.length f1 = R ∧ R.length ≤ (q_cw (vXL S) (k_both (nI v))) := by
      have z : q_post (q_g2 (vXL S) (nI v) (q_cw (vXL S) (k_both (nI v))) (xn S) 0 []) (q_cw (vXL S) (k_both (nI v))) r1 f1 := hf1
      rw [hg2] at z
      exact z
    refine lv_istore_n (lv' := [(2, .int (nI R.length)), (0, .ref (q 0)), (1, .int (nI v))]) hx hb dX0_eliminate_22 rfl hl (by decide) rfl (fun ls hl => ?_)
    refine lv_iload_n hx hb dX0_eliminate_23 rfl (lv_at hl 0 rfl) ?_
    refine lv_iconst (v := (-1)) hx hb dX0_eliminate_24 (by decide) ?_
    refine lv_icmp_ne (tgt := 30) hx hb dX0_eliminate_25 (by decide) (fun hc25 => ?_) (fun hc25 => ?_)
    · refine lv_aload_n hx hb dX0_eliminate_30 rfl (lv_at hl 1 rfl) ?_
      refine va_get (v := .int (nI (xh S))) hx hb hts hinX0 hown hK hP 0 rfl rfl 8 (by decide) hf149 (fun _ h9 => h9) rfl dX0_eliminate_31 ?_
      refine lv_aload_n hx hb dX0_eliminate_34 rfl (lv_at hl 1 rfl) ?_
      refine lv_iload_n hx hb dX0_eliminate_35 rfl (lv_at hl 2 rfl) ?_
      refine xc_s (As := [.int (nI v)]) (rest := [.ref (q 0), .int (nI (xh S))]) ⟨hx, hb, hml, hown, hts⟩ (kX0_positive l (nI v)) (va_cwS 1 hts (gd_S bw_54 bw_55 bw_1 bw_56) rfl rfl rfl (by decide +kernel) ⟨Nat.le_of_ble_eq_true rfl, Nat.le_of_ble_eq_true rfl⟩) rfl hl.1 rfl (Nat.le_of_ble_eq_true rfl) dX0_eliminate_36 ⟨Nat.zero_le _, Nat.zero_le _⟩ ?_
      refine xc_rv (As := [.int (k_pos (nI v))]) (rest := [.int (nI (xh S))]) ⟨hx, hb, hml, hown, hts⟩ (kX0_countWith l D q cA (xk (xd S) (xt S) (xn S) (xm S) (xh S) (xg S) (xse S) (xnu S) (xes S) (xel S) (xgi S) f1) ⟨hn40, hh200, hg100⟩ (k_pos (nI v))) (cwV 1 hts (gd_V bw_212 bw_213 bw_431 bw_1 bw_214) rfl rfl rfl (by decide +kernel) ⟨Nat.le_of_ble_eq_true rfl, Nat.le_of_ble_eq_true rfl⟩) (va_recv (ci := 0) (q0 := 0) hK hP rfl rfl) hP hK rfl hl.1 rfl (Nat.le_of_ble_eq_true rfl) dX0_eliminate_39 ⟨Nat.zero_le _, Nat.zero_le _⟩ ?_
      refine xi_add hx hb dX0_eliminate_42 ?_
      refine lv_iconst (v := 1) hx hb dX0_eliminate_43 (by decide) ?_
      refine xi_inc hx hb dX0_eliminate_44 ?_
      refine lv_sipush (v := 200) hx hb dX0_eliminate_45 (by decide) ?_
      refine lv_icmp_le (tgt := 61) hx hb dX0_eliminate_48 (by decide) (fun hc48 => ?_) (fun hc48 => ?_)
      · refine lv_aload_n hx hb dX0_eliminate_61 rfl (lv_at hl 1 rfl) ?_
        refine lv_iload_n hx hb dX0_eliminate_62 rfl (lv_at hl 2 rfl) ?_
        refine xc_s (As := [.int (nI v)]) (rest := [.ref (q 0)]) ⟨hx, hb, hml, hown, hts⟩ (kX0_positive l (nI v)) (va_cwS 1 hts (gd_S bw_54 bw_55 bw_1 bw_56) rfl rfl rfl (by decide +kernel) ⟨Nat.le_of_ble_eq_true rfl, Nat.le_of_ble_eq_true rfl⟩) rfl hl.1 rfl (Nat.le_of_ble_eq_true rfl) dX0_eliminate_63 ⟨Nat.zero_le _, Nat.zero_le _⟩ ?_
        refine xc_wv (As := [.int (k_pos (nI v))]) (rest := []) ⟨hx, hb, hml, hown, hts⟩ (kX0_pushAllWith l D q cA (xk (xd S) (xt S) (xn S) (xm S) (xh S) (xg S) (xse S) (xnu S) (xes S) (xel S) (xgi S) f1) ⟨hn40, hh200, hg100⟩ (k_pos (nI v)) (show xh S + q_cw (vXL S) (k_pos (nI v)) ≤ 200 by omega) _) (cwV 1 hts (gd_V bw_218 bw_219 bw_433 bw_1 bw_220) rfl rfl rfl (by decide +kernel) ⟨Nat.le_of_ble_eq_true rfl, Nat.le_of_ble_eq_true rfl⟩) (va_recv (ci := 0) (q0 := 0) hK hP rfl rfl) hP hK hD hS hA rfl hl.1 rfl (Nat.le_of_ble_eq_true rfl) dX0_eliminate_66 ⟨Nat.zero_le _, Nat.zero_le _⟩ (fun z H locs hz hP hD hS => ?_)
        have hP : va_P D vwCl (wX q cA (xk (xd S) (xt S) (xn S) (xm S) z.1 (xg S) (xse S) (xnu S) z.2.1 z.2.2 (xgi S) f1)) H := hP
        have hD : va_D _ (wX q cA (xk (xd S) (xt S) (xn S) (xm S) z.1 (xg S) (xse S) (xnu S) z.2.1 z.2.2 (xgi S) f1)) := hD
        have hz0 : cl_of z.1 z.2.1 z.2.2 = vXT S ++ q_pal (k_pos (nI v)) (vXL S) := hz.1
        have hz1 : z.1 = xh S + q_cw (vXL S) (k_pos (nI v)) := by
          have y := congrArg List.length hz0
          rw [cl_of_len, List.length_append, vXT_len, pal_len] at y
          exact y
        refine lv_aload_n hx hb dX0_eliminate_69 rfl (lv_at hl 1 rfl) ?_
        refine lv_iload_n hx hb dX0_eliminate_70 rfl (lv_at hl 2 rfl) ?_
        refine xc_s (As := [.int (nI v)]) (rest := [.ref (q 0)]) ⟨hx, hb, hml, hown, hts⟩ (kX0_negative l (nI v)) (va_cwS 1 hts (gd_S bw_100 bw_101 bw_1 bw_102) rfl rfl rfl (by decide +kernel) ⟨Nat.le_of_ble_eq_true rfl, Nat.le_of_ble_eq_true rfl⟩) rfl hl.1 rfl (Nat.le_of_ble_eq_true rfl) dX0_eliminate_71 ⟨Nat.zero_le _, Nat.zero_le _⟩ ?_
        refine lv_iload_n hx hb dX0_eliminate_74 rfl (lv_at hl 2 rfl) ?_
        refine xc_s (As := [.int (nI v)]) (rest := [.int (k_neg (nI v)), .ref (q 0)]) ⟨hx, hb, hml, hown, hts⟩ (kX0_negative l (nI v)) (va_cwS 1 hts (gd_S bw_100 bw_101 bw_1 bw_102) rfl rfl rfl (by decide +kernel) ⟨Nat.le_of_ble_eq_true rfl, Nat.le_of_ble_eq_true rfl⟩) rfl hl.1 rfl (Nat.le_of_ble_eq_true rfl) dX0_eliminate_75 ⟨Nat.zero_le _, Nat.zero_le _⟩ ?_
        refine xc_wv (As := [.int (k_neg (nI v)), .int (k_neg (nI v))]) (rest := []) ⟨hx, hb, hml, hown, hts⟩ (kX0_push l D q cA (xk (xd S) (xt S) (xn S) (xm S) z.1 (xg S) (xse S) (xnu S) z.2.1 z.2.2 (xgi S) f1) ⟨hn40, (show z.1 ≤ 200 by omega), hg100⟩ (k_neg (nI v)) (k_neg (nI v)) (show z.1 < 200 by omega) _) (cwV 2 hts (gd_V bw_149 bw_150 bw_418 bw_1 bw_151) rfl rfl rfl (by decide +kernel) ⟨Nat.le_of_ble_eq_true rfl, Nat.le_of_ble_eq_true rfl⟩) (va_recv (ci := 0) (q0 := 0) hK hP rfl rfl) hP hK hD hS hA rfl hl.1 rfl (Nat.le_of_ble_eq_true rfl) dX0_eliminate_78 ⟨Nat.zero_le _, Nat.zero_le _⟩ (fun u1 H locs hu1 hP hD hS => ?_)
        have hP : va_P D vwCl (wX q cA (xk (xd S) (xt S) (xn S) (xm S) (z.1 + 1) (xg S) (xse S) (xnu S) (upd z.2.1 z.1 (k_neg (nI v))) (upd z.2.2 z.1 (k_neg (nI v))) (xgi S) f1)) H := by rw [hu1] at hP; exact hP
        have hD : va_D (va_A (wX q cA S) s.heap.size) (wX q cA (xk (xd S) (xt S) (xn S) (xm S) (z.1 + 1) (xg S) (xse S) (xnu S) (upd z.2.1 z.1 (k_neg (nI v))) (upd z.2.2 z.1 (k_neg (nI v))) (xgi S) f1)) := by rw [hu1] at hD; exact hD
        refine lv_aload_n hx hb dX0_eliminate_81 rfl (lv_at hl 1 rfl) ?_
        refine lv_iload_n hx hb dX0_eliminate_82 rfl (lv_at hl 2 rfl) ?_
        refine xc_s (As := [.int (nI v)]) (rest := [.ref (q 0)]) ⟨hx, hb, hml, hown, hts⟩ (kX0_bothLiterals l (nI v)) (va_cwS 1 hts (gd_S bw_191 bw_192 bw_1 bw_193) rfl rfl rfl (by decide +kernel) ⟨Nat.le_of_ble_eq_true rfl, Nat.le_of_ble_eq_true rfl⟩) rfl hl.1 rfl (Nat.le_of_ble_eq_true rfl) dX0_eliminate_83 ⟨Nat.zero_le _, Nat.zero_le _⟩ ?_
        refine xc_wv (As := [.int (k_both (nI v))]) (rest := []) ⟨hx, hb, hml, hown, hts⟩ (kX0_removeAllWith l D q cA (xk (xd S) (xt S) (xn S) (xm S) (z.1 + 1) (xg S) (xse S) (xnu S) (upd z.2.1 z.1 (k_neg (nI v))) (upd z.2.2 z.1 (k_neg (nI v))) (xgi S) f1) ⟨hn40, (show z.1 + 1 ≤ 200 by omega), hg100⟩ (k_both (nI v)) _) (cwV 1 hts (gd_V bw_152 bw_153 bw_419 bw_1 bw_154) rfl rfl rfl (by decide +kernel) ⟨Nat.le_of_ble_eq_true rfl, Nat.le_of_ble_eq_true rfl⟩) (va_recv (ci := 0) (q0 := 0) hK hP rfl rfl) hP hK hD hS hA rfl hl.1 rfl (Nat.le_of_ble_eq_true rfl) dX0_eliminate_86 ⟨Nat.zero_le _, Nat.zero_le _⟩ (fun u3 H locs hu3 hP hD hS => ?_)
        have eu3 : u3 = (xk (xd S) (xt S) (xn u3) (xm S) (z.1 + 1) (xg S) (xse u3) (xnu u3) (upd z.2.1 z.1 (k_neg (nI v))) (upd z.2.2 z.1 (k_neg (nI v))) (xgi S) f1) := hu3.1
        have hP : va_P D vwCl (wX q cA (xk (xd S) (xt S) (xn u3) (xm S) (z.1 + 1) (xg S) (xse u3) (xnu u3) (upd z.2.1 z.1 (k_neg (nI v))) (upd z.2.2 z.1 (k_neg (nI v))) (xgi S) f1)) H := by rw [eu3] at hP; exact hP
        have hD : va_D (va_A (wX q cA S) s.heap.size) (wX q cA (xk (xd S) (xt S) (xn u3) (xm S) (z.1 + 1) (xg S) (xse u3) (xnu u3) (upd z.2.1 z.1 (k_neg (nI v))) (upd z.2.2 z.1 (k_neg (nI v))) (xgi S) f1)) := by rw [eu3] at hD; exact hD
        have lu3 : cl_of (xn u3) (xse u3) (xnu u3) = ((vXL S).filter (fun c => (c.1 &&& k_both (nI v)) == 0)) := hu3.2
        have hn2 : xn u3 + R.length ≤ 40 := by
          have z1 := cw_split (vXL S) (k_both (nI v))
          have z2 : q_cw (vXL S) (k_both (nI v)) = ((vXL S).filter (fun c => (c.1 &&& k_both (nI v)) != 0)).length := cw_len _ _ _ _
          rw [vXL_len] at z1
          have z3 := congrArg List.length lu3
          rw [cl_of_len] at z3
          omega
        refine lv_iconst (v := 0) hx hb dX0_eliminate_89 (by decide) ?_
        refine lv_istore_n (lv' := [(3, .int 0), (2, .int (nI R.length)), (0, .ref (q 0)), (1, .int (nI v))]) hx hb dX0_eliminate_90 rfl hl (by decide) rfl (fun ls hl => ?_)
        refine wlw (σ := Nat × Nat × Int32 × (Nat → Int32) × (Nat → Int32)) (fun (x9 : Nat × Nat × Int32 × (Nat → Int32) × (Nat → Int32)) (H : Heap) (locs : List Loc) ls => match x9 with | (i, n, mm, f, g) => lv_has ls 4 [(3, .int (nI i)), (2, .int (nI R.length)), (0, .ref (q 0)), (1, .int (nI v))] ∧ va_P D vwCl (wX q cA (xk (xd S) (xt S) n mm (z.1 + 1) (xg S) f g (upd z.2.1 z.1 (k_neg (nI v))) (upd z.2.2 z.1 (k_neg (nI v))) (xgi S) f1)) H ∧ va_D (va_A (wX q cA S) s.heap.size) (wX q cA (xk (xd S) (xt S) n mm (z.1 + 1) (xg S) f g (upd z.2.1 z.1 (k_neg (nI v))) (upd z.2.2 z.1 (k_neg (nI v))) (xgi S) f1)) ∧ va_S (va_A (wX q cA S) s.heap.size) s.heap H locs ∧ i ≤ R.length ∧ n + (R.length - i) ≤ 40 ∧ q_app ((vXL S).filter (fun c => (c.1 &&& k_both (nI v)) == 0)) (xm S) R = q_app (cl_of n f g) mm (R.drop i) ∧ q_mm (xm S) R = q_mm mm (R.drop i)) (fun (x9 : Nat × Nat × Int32 × (Nat → Int32) × (Nat → Int32)) => match x9 with | (i, n, mm, f, g) => R.length - i) (0, xn u3, xm S, xse u3, xnu u3) ⟨lv_sub hl [0, 1, 2, 3] rfl, hP, hD, hS, (Nat.zero_le _), (by omega), (by rw [lu3]; rfl), rfl⟩ ?_
        intro x9 H locs ls hI ih91
        obtain ⟨i, n, mm, f, g⟩ := x9
        obtain ⟨hl, hP, hD, hS, hi, hn, hq, hmm⟩ := hI
        have hl : lv_has ls 4 [(3, .int (nI i)), (2, .int (nI R.length)), (0, .ref (q 0)), (1, .int (nI v))] := hl
        refine lv_iload_n hx hb dX0_eliminate_91 rfl (lv_at hl 0 rfl) ?_
        refine lv_iload_n hx hb dX0_eliminate_92 rfl (lv_at hl 1 rfl) ?_
        refine lv_icmp_ge (tgt := 113) hx hb dX0_eliminate_93 (by decide) (fun hc93 => ?_) (fun hc93 => ?_)
        · have hge : R.length ≤ i := (nI_leI (by omega) (by omega)).mp hc93
          refine lv_iload_n hx hb dX0_eliminate_113 rfl (lv_at hl 1 rfl) ?_
          have hpo : nI R.length = nI R.length ∧ vXL (xk (xd S) (xt S) n mm (z.1 + 1) (xg S) f g (upd z.2.1 z.1 (k_neg (nI v))) (upd z.2.2 z.1 (k_neg (nI v))) (xgi S) f1) = q_app ((vXL S).filter (fun c => (c.1 &&& k_both (nI v)) == 0)) (xm S) R ∧ xm (xk (xd S) (xt S) n mm (z.1 + 1) (xg S) f g (upd z.2.1 z.1 (k_neg (nI v))) (upd z.2.2 z.1 (k_neg (nI v))) (xgi S) f1) = q_mm (xm S) R ∧ vXT (xk (xd S) (xt S) n mm (z.1 + 1) (xg S) f g (upd z.2.1 z.1 (k_neg (nI v))) (upd z.2.2 z.1 (k_neg (nI v))) (xgi S) f1) = (vXT S ++ q_pal (k_pos (nI v)) (vXL S)) ++ [(k_neg (nI v), k_neg (nI v))] ∧ xd (xk (xd S) (xt S) n mm (z.1 + 1) (xg S) f g (upd z.2.1 z.1 (k_neg (nI v))) (upd z.2.2 z.1 (k_neg (nI v))) (xgi S) f1) = xd S ∧ xt (xk (xd S) (xt S) n mm (z.1 + 1) (xg S) f g (upd z.2.1 z.1 (k_neg (nI v))) (upd z.2.2 z.1 (k_neg (nI v))) (xgi S) f1) = xt S ∧ xg (xk (xd S) (xt S) n mm (z.1 + 1) (xg S) f g (upd z.2.1 z.1 (k_neg (nI v))) (upd z.2.2 z.1 (k_neg (nI v))) (xgi S) f1) = xg S ∧ xgi (xk (xd S) (xt S) n mm (z.1 + 1) (xg S) f g (upd z.2.1 z.1 (k_neg (nI v))) (upd z.2.2 z.1 (k_neg (nI v))) (xgi S) f1) = xgi S := by
            have hd : R.drop i = [] := List.drop_eq_nil_of_le hge
            rw [hd] at hq hmm
            exact ⟨rfl, hq.symm, hmm.symm, (mk_cl z.1 z.2.1 z.2.2 _ _).trans (by rw [hz0]), rfl, rfl, rfl, rfl⟩
          exact W.iret (v := (nI R.length)) hx hb hr (fun t ht hW => ⟨⟨(nI R.length), (xk (xd S) (xt S) n mm (z.1 + 1) (xg S) f g (upd z.2.1 z.1 (k_neg (nI v))) (upd z.2.2 z.1 (k_neg (nI v))) (xgi S) f1), rfl, hpo, by rw [ht]; exact hP, va_K.moved hW.alike hK, hD⟩, hS.F ht⟩) hS.2.2 dX0_eliminate_114
        · have hlt : i < R.length := Nat.lt_of_not_le (fun z => hc93 ((nI_leI (by omega) (by omega)).mpr z))
          refine lv_aload_n hx hb dX0_eliminate_96 rfl (lv_at hl 2 rfl) ?_
          refine lv_aload_n hx hb dX0_eliminate_97 rfl (lv_at hl 2 rfl) ?_
          refine va_get (v := .ref (q 6)) hx hb hts hinX0 hown hK hP 0 rfl rfl 11 (by decide) hf25 (fun _ h9 => h9) rfl dX0_eliminate_98 ?_
          refine lv_iload_n hx hb dX0_eliminate_101 rfl (lv_at hl 0 rfl) ?_
          refine xa_ld hx hb hK hP 6 0 rfl rfl i (by omega) (by first | decide | assumption) dX0_eliminate_102 ?_
          refine xc_wi (As := [.int (f1 i)]) (rest := []) ⟨hx, hb, hml, hown, hts⟩ (kX0_make l D q cA (xk (xd S) (xt S) n mm (z.1 + 1) (xg S) f g (upd z.2.1 z.1 (k_neg (nI v))) (upd z.2.2 z.1 (k_neg (nI v))) (xgi S) f1) ⟨(show n ≤ 40 by omega), (show z.1 + 1 ≤ 200 by omega), hg100⟩ (f1 i) (show n < 40 by omega) _) (cwV 1 hts (gd_V bw_130 bw_131 bw_415 bw_1 bw_132) rfl rfl rfl (by decide +kernel) ⟨Nat.le_of_ble_eq_true rfl, Nat.le_of_ble_eq_true rfl⟩) (va_recv (ci := 0) (q0 := 0) hK hP rfl rfl) hP hK hD hS hA rfl hl.1 rfl (Nat.le_of_ble_eq_true rfl) dX0_eliminate_103 ⟨Nat.zero_le _, Nat.zero_le _⟩ (fun r6 u5 H locs hu5 hP hD hS => ?_)
          have hP : va_P D vwCl (wX q cA (xk (xd S) (xt S) (n + 1) (mm + 1) (z.1 + 1) (xg S) (upd f n (f1 i)) (upd g n mm) (upd z.2.1 z.1 (k_neg (nI v))) (upd z.2.2 z.1 (k_neg (nI v))) (xgi S) f1)) H := by rw [hu5.2] at hP; exact hP
          have hD : va_D (va_A (wX q cA S) s.heap.size) (wX q cA (xk (xd S) (xt S) (n + 1) (mm + 1) (z.1 + 1) (xg S) (upd f n (f1 i)) (upd g n mm) (upd z.2.1 z.1 (k_neg (nI v))) (upd z.2.2 z.1 (k_neg (nI v))) (xgi S) f1)) := by rw [hu5.2] at hD; exact hD
          refine lv_pop hx hb dX0_eliminate_106 rfl ?_
          refine lv_iinc (k := 0) (v := nI (i + 1)) (lv' := [(3, .int (nI (i + 1))), (2, .int (nI R.length)), (0, .ref (q 0)), (1, .int (nI v))]) hx hb dX0_eliminate_107 hl rfl (ii_1 _) (by decide) rfl (fun ls hl => ?_)
          refine lv_goto (tgt := 91) hx hb dX0_eliminate_110 (by decide) ?_
          exact ih91 (i + 1, n + 1, mm + 1, upd f n (f1 i), upd g n mm) _ _ _ ⟨lv_sub hl [0, 1, 2, 3] rfl, hP, hD, hS, (by omega), (by omega), (by rw [hq, drop_at hR hlt, mk_cl]; rfl), (by rw [hmm, drop_at hR hlt]; rfl)⟩ (by show R.length - (i + 1) < R.length - i; omega)
      · exact absurd (nI_le (b := 200) hroom (by decide)) hc48
    · exact absurd hc25 (nI_m1 (by omega))
  · exact absurd (kb_0.mp hc4) (by rw [isV_nI v (by omega) h1]; decide)
