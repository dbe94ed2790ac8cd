/-! The reference: close. -/
set_option maxHeartbeats 4000000 in
set_option maxRecDepth 100000 in
theorem kX1_close_full (l : Launch) (D : va_G) (q : Nat → Nat) (cA : ClassId) (S : MS) (hok : okM S) (hmt : m_taut (yd S) = false) (hfd : q_find (vML S) (yd S) = none) (hn9 : yn S = 40) (sz : Nat) : xw_Mi l yX1_close wsX1_close ({ frames := 1, cells := 0, slots := 0, locals := 22 }) D vwCl [(cA, .int)] [.ref (q 0)] (wM q cA S) sz (fun (r : Int32) (u : MS) => (r : Int32) = 0 ∧ u = (yk 0 (yn S) (ym S) (yh S) (yg S) (yt S) 1 (yse S) (ynu S) (yes S) (yel S) (ygi S))) (wM q cA) := by
  refine Met.ofW (cc := cX1_close) (maxL := 3) (ret := (some .int)) (by decide) rfl ?_
  intro p e s m args below meth c s₁ B hml hv
  obtain ⟨rfl, hsz, hP, hK, hD0⟩ := hv
  subst hsz
  have hD := hD0.self (sz := s.heap.size)
  have hA : ∀ z, s.heap.size ≤ z → va_A (wM q cA S) s.heap.size z := fun z h => Or.inr h
  have hS : va_S (va_A (wM q cA S) s.heap.size) s.heap s.heap [] := va_S.rf
  obtain ⟨hn40, hh200, hg100⟩ := id hok
  have hx := B.exec
  have hb := B.bytes
  have hr := B.returns
  have hts := atoms_spec (ws := wsX1_close) B.pre
  have hown : s.vm.findClass RX1 = some m.cls := findClass_of_methodNamed B.named
  have hlocks := B.notSynchronized
  have hinX1 : ∀ w ∈ u_ws RX1 TX1 12, w ∈ wsX1_close := fun w h => List.mem_cons_of_mem _ (bw_X1 w h)
  have hf25 := hts _ (List.mem_cons_of_mem _ bw_269)
  have hf33 := hts _ (List.mem_cons_of_mem _ bw_259)
  have hf53 := hts _ (List.mem_cons_of_mem _ bw_258)
  have hl := lv_entry ([.ref (q 0)]) (n := 3) (Nat.le_of_ble_eq_true rfl)
  rw [lg_entry_eq]
  generalize (lg_sl ([.ref (q 0)]) ++ List.replicate (3 - (lg_sl ([.ref (q 0)])).length) Slot.unset).toArray = ls at hl ⊢
  have hl : lv_has ls 3 [(0, .ref (q 0))] := hl
  refine lv_aload_n hx hb dX1_close_0 rfl (lv_at hl 0 rfl) ?_
  refine va_get (v := .int (yd S)) hx hb hts hinX1 hown hK hP 0 rfl rfl 0 (by decide) hf53 (fun _ h9 => h9) rfl dX1_close_1 ?_
  refine lv_istore_n (lv' := [(1, .int (yd S)), (0, .ref (q 0))]) hx hb dX1_close_4 rfl hl (by decide) rfl (fun ls hl => ?_)
  refine lv_aload_n hx hb dX1_close_5 rfl (lv_at hl 1 rfl) ?_
  refine lv_iconst (v := 0) hx hb dX1_close_6 (by decide) ?_
  refine va_put (v := .int 0) (ty := .int) hx hb hts hinX1 tyX1 tyX1_ok nmX1 hown hK hP hD hS 0 rfl rfl 0 (by decide) hf53 (fun _ h9 => h9) rfl (by decide +kernel) rfl rfl (Nat.le_of_ble_eq_true rfl) dX1_close_7 (fun H locs hP hD hS => ?_)
  have hP : va_P D vwCl (wM q cA (yk 0 (yn S) (ym S) (yh S) (yg S) (yt S) (yth S) (yse S) (ynu S) (yes S) (yel S) (ygi S))) H := hP
  have hD : va_D _ (wM q cA (yk 0 (yn S) (ym S) (yh S) (yg S) (yt S) (yth S) (yse S) (ynu S) (yes S) (yel S) (ygi S))) := hD
  refine lv_iload_n hx hb dX1_close_10 rfl (lv_at hl 0 rfl) ?_
  refine xc_s (As := [.int (yd S)]) (rest := []) ⟨hx, hb, hml, hown, hts⟩ (kX1_isTautology l (yd S)) (va_cwS 1 hts (gd_S bw_303 bw_304 bw_2 bw_305) rfl rfl rfl (by decide +kernel) ⟨Nat.le_of_ble_eq_true rfl, Nat.le_of_ble_eq_true rfl⟩) rfl hl.1 rfl (Nat.le_of_ble_eq_true rfl) dX1_close_11 ⟨Nat.zero_le _, Nat.zero_le _⟩ ?_
  refine lv_if_ne (tgt := 29) hx hb dX1_close_14 (by decide) (fun hc14 => ?_) (fun hc14 => ?_)
  · exact absurd (kb_n0.mp hc14) (by rw [hmt]; decide)
  · have h14 : m_taut (yd S) = false := kb_0.mp hc14
    refine lv_aload_n hx hb dX1_close_17 rfl (lv_at hl 1 rfl) ?_
    refine lv_iload_n hx hb dX1_close_18 rfl (lv_at hl 0 rfl) ?_
    refine xc_rv (As := [.int (yd S)]) (rest := []) ⟨hx, hb, hml, hown, hts⟩ (kX1_find l D q cA (yk 0 (yn S) (ym S) (yh S) (yg S) (yt S) (yth S) (yse S) (ynu S) (yes S) (yel S) (ygi S)) ⟨hn40, hh200, hg100⟩ (yd S)) (cwV 1 hts (gd_V bw_306 bw_307 bw_434 bw_2 bw_308) rfl rfl rfl (by decide +kernel) ⟨Nat.le_of_ble_eq_true rfl, Nat.le_of_ble_eq_true rfl⟩) (va_recv (ci := 1) (q0 := 0) hK hP rfl rfl) hP hK rfl hl.1 rfl (Nat.le_of_ble_eq_true rfl) dX1_close_19 ⟨Nat.zero_le _, Nat.zero_le _⟩ ?_
    refine lv_if_ge (tgt := 29) hx hb dX1_close_22 (by decide) (fun hc22 => ?_) (fun hc22 => ?_)
    · exact absurd hfd (by
        intro z
        exact absurd ((q_find_lt0 (by rw [vML_len]; omega)).mpr z) (Int32.not_lt.mpr hc22))
    · have h22 : q_find (vML S) (yd S) = none := (q_find_lt0 (by rw [vML_len]; omega)).mp (Int32.not_le.mp hc22)
      refine lv_iconst (v := 1) hx hb dX1_close_25 (by decide) ?_
      refine lv_goto (tgt := 30) hx hb dX1_close_26 (by decide) ?_
      refine lv_istore_n (lv' := [(2, .int 1), (1, .int (yd S)), (0, .ref (q 0))]) hx hb dX1_close_30 rfl hl (by decide) rfl (fun ls hl => ?_)
      refine lv_aload_n hx hb dX1_close_31 rfl (lv_at hl 2 rfl) ?_
      refine lv_iload_n hx hb dX1_close_32 rfl (lv_at hl 0 rfl) ?_
      refine lv_if_eq (tgt := 49) hx hb dX1_close_33 (by decide) (fun hc33 => ?_) (fun hc33 => ?_)
      · exact absurd hc33 (by decide)
      · refine lv_aload_n hx hb dX1_close_36 rfl (lv_at hl 2 rfl) ?_
        refine va_get (v := .int (nI (yn S))) hx hb hts hinX1 hown hK hP 0 rfl rfl 1 (by decide) hf33 (fun _ h9 => h9) rfl dX1_close_37 ?_
        refine lv_bipush (v := 40) hx hb dX1_close_40 (by decide) ?_
        refine lv_icmp_ne (tgt := 49) hx hb dX1_close_42 (by decide) (fun hc42 => ?_) (fun hc42 => ?_)
        · exact absurd (by rw [hn9]; rfl) hc42
        · refine lv_iconst (v := 1) hx hb dX1_close_45 (by decide) ?_
          refine lv_goto (tgt := 50) hx hb dX1_close_46 (by decide) ?_
          refine va_put (v := .int 1) (ty := .int) hx hb hts hinX1 tyX1 tyX1_ok nmX1 hown hK hP hD hS 0 rfl rfl 11 (by decide) hf25 (fun _ h9 => h9) rfl (by decide +kernel) rfl rfl (Nat.le_of_ble_eq_true rfl) dX1_close_50 (fun H locs hP hD hS => ?_)
          have hP : va_P D vwCl (wM q cA (yk 0 (yn S) (ym S) (yh S) (yg S) (yt S) 1 (yse S) (ynu S) (yes S) (yel S) (ygi S))) H := hP
          have hD : va_D _ (wM q cA (yk 0 (yn S) (ym S) (yh S) (yg S) (yt S) 1 (yse S) (ynu S) (yes S) (yel S) (ygi S))) := hD
          refine lv_aload_n hx hb dX1_close_53 rfl (lv_at hl 2 rfl) ?_
          refine va_get (v := .int 1) hx hb hts hinX1 hown hK hP 0 rfl rfl 11 (by decide) hf25 (fun _ h9 => h9) rfl dX1_close_54 ?_
          refine lv_if_eq (tgt := 62) hx hb dX1_close_57 (by decide) (fun hc57 => ?_) (fun hc57 => ?_)
          · exact absurd hc57 (by decide)
          · refine lv_iconst (v := 0) hx hb dX1_close_60 (by decide) ?_
            have hpo : (0 : Int32) = 0 ∧ (yk 0 (yn S) (ym S) (yh S) (yg S) (yt S) 1 (yse S) (ynu S) (yes S) (yel S) (ygi S)) = (yk 0 (yn S) (ym S) (yh S) (yg S) (yt S) 1 (yse S) (ynu S) (yes S) (yel S) (ygi S)) := ⟨rfl, rfl⟩
            exact W.iret (v := 0) hx hb hr (fun t ht hW => ⟨⟨0, (yk 0 (yn S) (ym S) (yh S) (yg S) (yt S) 1 (yse S) (ynu S) (yes S) (yel S) (ygi S)), rfl, hpo, by rw [ht]; exact hP, va_K.moved hW.alike hK, hD⟩, hS.F ht⟩) hS.2.2 dX1_close_61

set_option maxHeartbeats 4000000 in
set_option maxRecDepth 100000 in
theorem kX1_close_made (l : Launch) (D : va_G) (q : Nat → Nat) (cA : ClassId) (S : MS) (hok : okM S) (hmt : m_taut (yd S) = false) (hfd : q_find (vML S) (yd S) = none) (hn9 : yn S < 40) (sz : Nat) : xw_Mi l yX1_close wsX1_close ({ frames := 2, cells := 0, slots := 0, locals := 43 }) D vwCl [(cA, .int)] [.ref (q 0)] (wM q cA S) sz (fun (r : Int32) (u : MS) => r = ym S ∧ u = (yk 0 (yn S + 1) (ym S + 1) (yh S) (if yg S < 100 then yg S + 1 else yg S) (yt S) 0 (upd (yse S) (yn S) (yd S)) (upd (ynu S) (yn S) (ym S)) (yes S) (yel S) (if yg S < 100 then upd (ygi S) (yg S) (yd S) else ygi S))) (wM q cA) := by
  refine Met.ofW (cc := cX1_close) (maxL := 3) (ret := (some .int)) (by decide) rfl ?_
  intro p e s m args below meth c s₁ B hml hv
  obtain ⟨rfl, hsz, hP, hK, hD0⟩ := hv
  subst hsz
  have hD := hD0.self (sz := s.heap.size)
  have hA : ∀ z, s.heap.size ≤ z → va_A (wM q cA S) s.heap.size z := fun z h => Or.inr h
  have hS : va_S (va_A (wM q cA S) s.heap.size) s.heap s.heap [] := va_S.rf
  obtain ⟨hn40, hh200, hg100⟩ := id hok
  have hx := B.exec
  have hb := B.bytes
  have hr := B.returns
  have hts := atoms_spec (ws := wsX1_close) B.pre
  have hown : s.vm.findClass RX1 = some m.cls := findClass_of_methodNamed B.named
  have hlocks := B.notSynchronized
  have hinX1 : ∀ w ∈ u_ws RX1 TX1 12, w ∈ wsX1_close := fun w h => List.mem_cons_of_mem _ (bw_X1 w h)
  have hf22 := hts _ (List.mem_cons_of_mem _ bw_267)
  have hf25 := hts _ (List.mem_cons_of_mem _ bw_269)
  have hf33 := hts _ (List.mem_cons_of_mem _ bw_259)
  have hf53 := hts _ (List.mem_cons_of_mem _ bw_258)
  have hf59 := hts _ (List.mem_cons_of_mem _ bw_266)
  have hl := lv_entry ([.ref (q 0)]) (n := 3) (Nat.le_of_ble_eq_true rfl)
  rw [lg_entry_eq]
  generalize (lg_sl ([.ref (q 0)]) ++ List.replicate (3 - (lg_sl ([.ref (q 0)])).length) Slot.unset).toArray = ls at hl ⊢
  have hl : lv_has ls 3 [(0, .ref (q 0))] := hl
  refine lv_aload_n hx hb dX1_close_0 rfl (lv_at hl 0 rfl) ?_
  refine va_get (v := .int (yd S)) hx hb hts hinX1 hown hK hP 0 rfl rfl 0 (by decide) hf53 (fun _ h9 => h9) rfl dX1_close_1 ?_
  refine lv_istore_n (lv' := [(1, .int (yd S)), (0, .ref (q 0))]) hx hb dX1_close_4 rfl hl (by decide) rfl (fun ls hl => ?_)
  refine lv_aload_n hx hb dX1_close_5 rfl (lv_at hl 1 rfl) ?_
  refine lv_iconst (v := 0) hx hb dX1_close_6 (by decide) ?_
  refine va_put (v := .int 0) (ty := .int) hx hb hts hinX1 tyX1 tyX1_ok nmX1 hown hK hP hD hS 0 rfl rfl 0 (by decide) hf53 (fun _ h9 => h9) rfl (by decide +kernel) rfl rfl (Nat.le_of_ble_eq_true rfl) dX1_close_7 (fun H locs hP hD hS => ?_)
  have hP : va_P D vwCl (wM q cA (yk 0 (yn S) (ym S) (yh S) (yg S) (yt S) (yth S) (yse S) (ynu S) (yes S) (yel S) (ygi S))) H := hP
  have hD : va_D _ (wM q cA (yk 0 (yn S) (ym S) (yh S) (yg S) (yt S) (yth S) (yse S) (ynu S) (yes S) (yel S) (ygi S))) := hD
  refine lv_iload_n hx hb dX1_close_10 rfl (lv_at hl 0 rfl) ?_
  refine xc_s (As := [.int (yd S)]) (rest := []) ⟨hx, hb, hml, hown, hts⟩ (kX1_isTautology l (yd S)) (va_cwS 1 hts (gd_S bw_303 bw_304 bw_2 bw_305) rfl rfl rfl (by decide +kernel) ⟨Nat.le_of_ble_eq_true rfl, Nat.le_of_ble_eq_true rfl⟩) rfl hl.1 rfl (Nat.le_of_ble_eq_true rfl) dX1_close_11 ⟨Nat.zero_le _, Nat.zero_le _⟩ ?_
  refine lv_if_ne (tgt := 29) hx hb dX1_close_14 (by decide) (fun hc14 => ?_) (fun hc14 => ?_)
  · exact absurd (kb_n0.mp hc14) (by rw [hmt]; decide)
  · have h14 : m_taut (yd S) = false := kb_0.mp hc14
    refine lv_aload_n hx hb dX1_close_17 rfl (lv_at hl 1 rfl) ?_
    refine lv_iload_n hx hb dX1_close_18 rfl (lv_at hl 0 rfl) ?_
    refine xc_rv (As := [.int (yd S)]) (rest := []) ⟨hx, hb, hml, hown, hts⟩ (kX1_find l D q cA (yk 0 (yn S) (ym S) (yh S) (yg S) (yt S) (yth S) (yse S) (ynu S) (yes S) (yel S) (ygi S)) ⟨hn40, hh200, hg100⟩ (yd S)) (cwV 1 hts (gd_V bw_306 bw_307 bw_434 bw_2 bw_308) rfl rfl rfl (by decide +kernel) ⟨Nat.le_of_ble_eq_true rfl, Nat.le_of_ble_eq_true rfl⟩) (va_recv (ci := 1) (q0 := 0) hK hP rfl rfl) hP hK rfl hl.1 rfl (Nat.le_of_ble_eq_true rfl) dX1_close_19 ⟨Nat.zero_le _, Nat.zero_le _⟩ ?_
    refine lv_if_ge (tgt := 29) hx hb dX1_close_22 (by decide) (fun hc22 => ?_) (fun hc22 => ?_)
    · exact absurd hfd (by
        intro z
        exact absurd ((q_find_lt0 (by rw [vML_len]; omega)).mpr z) (Int32.not_lt.mpr hc22))
    · have h22 : q_find (vML S) (yd S) = none := (q_find_lt0 (by rw [vML_len]; omega)).mp (Int32.not_le.mp hc22)
      have hno : ¬ (m_taut (yd S) = true ∨ ¬ q_find (vML S) (yd S) = none) := fun z => z.elim (fun z => by rw [h14] at z; exact absurd z (by decide)) (fun z => z h22)
      refine lv_iconst (v := 1) hx hb dX1_close_25 (by decide) ?_
      refine lv_goto (tgt := 30) hx hb dX1_close_26 (by decide) ?_
      refine lv_istore_n (lv' := [(2, .int 1), (1, .int (yd S)), (0, .ref (q 0))]) hx hb dX1_close_30 rfl hl (by decide) rfl (fun ls hl => ?_)
      refine lv_aload_n hx hb dX1_close_31 rfl (lv_at hl 2 rfl) ?_
      refine lv_iload_n hx hb dX1_close_32 rfl (lv_at hl 0 rfl) ?_
      refine lv_if_eq (tgt := 49) hx hb dX1_close_33 (by decide) (fun hc33 => ?_) (fun hc33 => ?_)
      · exact absurd hc33 (by decide)
      · refine lv_aload_n hx hb dX1_close_36 rfl (lv_at hl 2 rfl) ?_
        refine va_get (v := .int (nI (yn S))) hx hb hts hinX1 hown hK hP 0 rfl rfl 1 (by decide) hf33 (fun _ h9 => h9) rfl dX1_close_37 ?_
        refine lv_bipush (v := 40) hx hb dX1_close_40 (by decide) ?_
        refine lv_icmp_ne (tgt := 49) hx hb dX1_close_42 (by decide) (fun hc42 => ?_) (fun hc42 => ?_)
        · refine lv_iconst (v := 0) hx hb dX1_close_49 (by decide) ?_
          refine va_put (v := .int 0) (ty := .int) hx hb hts hinX1 tyX1 tyX1_ok nmX1 hown hK hP hD hS 0 rfl rfl 11 (by decide) hf25 (fun _ h9 => h9) rfl (by decide +kernel) rfl rfl (Nat.le_of_ble_eq_true rfl) dX1_close_50 (fun H locs hP hD hS => ?_)
          have hP : va_P D vwCl (wM q cA (yk 0 (yn S) (ym S) (yh S) (yg S) (yt S) 0 (yse S) (ynu S) (yes S) (yel S) (ygi S))) H := hP
          have hD : va_D _ (wM q cA (yk 0 (yn S) (ym S) (yh S) (yg S) (yt S) 0 (yse S) (ynu S) (yes S) (yel S) (ygi S))) := hD
          refine lv_aload_n hx hb dX1_close_53 rfl (lv_at hl 2 rfl) ?_
          refine va_get (v := .int 0) hx hb hts hinX1 hown hK hP 0 rfl rfl 11 (by decide) hf25 (fun _ h9 => h9) rfl dX1_close_54 ?_
          refine lv_if_eq (tgt := 62) hx hb dX1_close_57 (by decide) (fun hc57 => ?_) (fun hc57 => ?_)
          · refine lv_iload_n hx hb dX1_close_62 rfl (lv_at hl 1 rfl) ?_
            refine xc_s (As := [.int (yd S)]) (rest := []) ⟨hx, hb, hml, hown, hts⟩ (kX1_isTautology l (yd S)) (va_cwS 1 hts (gd_S bw_303 bw_304 bw_2 bw_305) rfl rfl rfl (by decide +kernel) ⟨Nat.le_of_ble_eq_true rfl, Nat.le_of_ble_eq_true rfl⟩) rfl hl.1 rfl (Nat.le_of_ble_eq_true rfl) dX1_close_63 ⟨Nat.zero_le _, Nat.zero_le _⟩ ?_
            refine lv_if_ne (tgt := 98) hx hb dX1_close_66 (by decide) (fun hc66 => ?_) (fun hc66 => ?_)
            · exact absurd (kb_n0.mp hc66) (by rw [h14]; decide)
            · have h66 : m_taut (yd S) = false := kb_0.mp hc66
              refine lv_aload_n hx hb dX1_close_69 rfl (lv_at hl 2 rfl) ?_
              refine va_get (v := .int (nI (yg S))) hx hb hts hinX1 hown hK hP 0 rfl rfl 8 (by decide) hf59 (fun _ h9 => h9) rfl dX1_close_70 ?_
              refine lv_bipush (v := 100) hx hb dX1_close_73 (by decide) ?_
              refine lv_icmp_ge (tgt := 98) hx hb dX1_close_75 (by decide) (fun hc75 => ?_) (fun hc75 => ?_)
              · have h75 : ¬ yg S < 100 := fun z => absurd (show (100 : Int32) ≤ nI (yg S) from hc75) (nI_ge z (by decide))
                refine lv_aload_n hx hb dX1_close_98 rfl (lv_at hl 2 rfl) ?_
                refine lv_iload_n hx hb dX1_close_99 rfl (lv_at hl 1 rfl) ?_
                refine xc_wi (As := [.int (yd S)]) (rest := []) ⟨hx, hb, hml, hown, hts⟩ (kX1_make l D q cA (yk 0 (yn S) (ym S) (yh S) (yg S) (yt S) 0 (yse S) (ynu S) (yes S) (yel S) (ygi S)) ⟨hn40, hh200, hg100⟩ (yd S) (show yn S < 90 by omega) _) (cwV 1 hts (gd_V bw_309 bw_310 bw_435 bw_2 bw_311) rfl rfl rfl (by decide +kernel) ⟨Nat.le_of_ble_eq_true rfl, Nat.le_of_ble_eq_true rfl⟩) (va_recv (ci := 1) (q0 := 0) hK hP rfl rfl) hP hK hD hS hA rfl hl.1 rfl (Nat.le_of_ble_eq_true rfl) dX1_close_100 ⟨Nat.zero_le _, Nat.zero_le _⟩ (fun r2 u1 H locs hu1 hP hD hS => ?_)
                have hpo : r2 = ym S ∧ u1 = (yk 0 (yn S + 1) (ym S + 1) (yh S) (if yg S < 100 then yg S + 1 else yg S) (yt S) 0 (upd (yse S) (yn S) (yd S)) (upd (ynu S) (yn S) (ym S)) (yes S) (yel S) (if yg S < 100 then upd (ygi S) (yg S) (yd S) else ygi S)) := ⟨by
                  rw [if_neg hno] at hu1
                  exact congrArg Prod.fst hu1, by
                  rw [if_neg hno] at hu1
                  have z : u1 = _ := congrArg Prod.snd hu1
                  rw [z, if_neg h75, if_neg h75]⟩
                exact W.iret (v := r2) hx hb hr (fun t ht hW => ⟨⟨r2, u1, rfl, hpo, by rw [ht]; exact hP, va_K.moved hW.alike hK, hD⟩, hS.F ht⟩) hS.2.2 dX1_close_103
              · have h75 : yg S < 100 := Nat.lt_of_not_le (fun z => hc75 (show (100 : Int32) ≤ nI (yg S) from nI_le z (by omega)))
                refine lv_aload_n hx hb dX1_close_78 rfl (lv_at hl 2 rfl) ?_
                refine va_get (v := .ref (q 5)) hx hb hts hinX1 hown hK hP 0 rfl rfl 9 (by decide) hf22 (fun _ h9 => h9) rfl dX1_close_79 ?_
                refine lv_aload_n hx hb dX1_close_82 rfl (lv_at hl 2 rfl) ?_
                refine va_get (v := .int (nI (yg S))) hx hb hts hinX1 hown hK hP 0 rfl rfl 8 (by decide) hf59 (fun _ h9 => h9) rfl dX1_close_83 ?_
                refine lv_iload_n hx hb dX1_close_86 rfl (lv_at hl 1 rfl) ?_
                refine xa_st hx hb hK hP hD hS 5 0 rfl rfl (yg S) (by omega) (by first | decide | assumption) dX1_close_87 (fun H locs hP hD hS => ?_)
                have hP : va_P D vwCl (wM q cA (yk 0 (yn S) (ym S) (yh S) (yg S) (yt S) 0 (yse S) (ynu S) (yes S) (yel S) (upd (ygi S) (yg S) (yd S)))) H := hP
                have hD : va_D _ (wM q cA (yk 0 (yn S) (ym S) (yh S) (yg S) (yt S) 0 (yse S) (ynu S) (yes S) (yel S) (upd (ygi S) (yg S) (yd S)))) := hD
                refine lv_aload_n hx hb dX1_close_88 rfl (lv_at hl 2 rfl) ?_
                refine lv_dup hx hb dX1_close_89 rfl ?_
                refine va_get (v := .int (nI (yg S))) hx hb hts hinX1 hown hK hP 0 rfl rfl 8 (by decide) hf59 (fun _ h9 => h9) rfl dX1_close_90 ?_
                refine lv_iconst (v := 1) hx hb dX1_close_93 (by decide) ?_
                refine xi_inc hx hb dX1_close_94 ?_
                refine va_put (v := .int (nI (yg S + 1))) (ty := .int) hx hb hts hinX1 tyX1 tyX1_ok nmX1 hown hK hP hD hS 0 rfl rfl 8 (by decide) hf59 (fun _ h9 => h9) rfl (by decide +kernel) rfl rfl (Nat.le_of_ble_eq_true rfl) dX1_close_95 (fun H locs hP hD hS => ?_)
                have hP : va_P D vwCl (wM q cA (yk 0 (yn S) (ym S) (yh S) (yg S + 1) (yt S) 0 (yse S) (ynu S) (yes S) (yel S) (upd (ygi S) (yg S) (yd S)))) H := hP
                have hD : va_D _ (wM q cA (yk 0 (yn S) (ym S) (yh S) (yg S + 1) (yt S) 0 (yse S) (ynu S) (yes S) (yel S) (upd (ygi S) (yg S) (yd S)))) := hD
                refine lv_aload_n hx hb dX1_close_98 rfl (lv_at hl 2 rfl) ?_
                refine lv_iload_n hx hb dX1_close_99 rfl (lv_at hl 1 rfl) ?_
                refine xc_wi (As := [.int (yd S)]) (rest := []) ⟨hx, hb, hml, hown, hts⟩ (kX1_make l D q cA (yk 0 (yn S) (ym S) (yh S) (yg S + 1) (yt S) 0 (yse S) (ynu S) (yes S) (yel S) (upd (ygi S) (yg S) (yd S))) ⟨hn40, hh200, (show yg S + 1 ≤ 100 by omega)⟩ (yd S) (show yn S < 90 by omega) _) (cwV 1 hts (gd_V bw_309 bw_310 bw_435 bw_2 bw_311) rfl rfl rfl (by decide +kernel) ⟨Nat.le_of_ble_eq_true rfl, Nat.le_of_ble_eq_true rfl⟩) (va_recv (ci := 1) (q0 := 0) hK hP rfl rfl) hP hK hD hS hA rfl hl.1 rfl (Nat.le_of_ble_eq_true rfl) dX1_close_100 ⟨Nat.zero_le _, Nat.zero_le _⟩ (fun r4 u3 H locs hu3 hP hD hS => ?_)
                have hpo : r4 = ym S ∧ u3 = (yk 0 (yn S + 1) (ym S + 1) (yh S) (if yg S < 100 then yg S + 1 else yg S) (yt S) 0 (upd (yse S) (yn S) (yd S)) (upd (ynu S) (yn S) (ym S)) (yes S) (yel S) (if yg S < 100 then upd (ygi S) (yg S) (yd S) else ygi S)) := ⟨by
                  rw [if_neg hno] at hu3
                  exact congrArg Prod.fst hu3, by
                  rw [if_neg hno] at hu3
                  have z : u3 = _ := congrArg Prod.snd hu3
                  rw [z, if_pos h75, if_pos h75]⟩
                exact W.iret (v := r4) hx hb hr (fun t ht hW => ⟨⟨r4, u3, rfl, hpo, by rw [ht]; exact hP, va_K.moved hW.alike hK, hD⟩, hS.F ht⟩) hS.2.2 dX1_close_103
          · exact absurd hc57 (by decide)
        · exact absurd ((nI_eq (b := 40) (by omega) (by decide)).mp hc42) (by omega)

set_option maxHeartbeats 4000000 in
set_option maxRecDepth 100000 in
theorem kX1_close_not (l : Launch) (D : va_G) (q : Nat → Nat) (cA : ClassId) (S : MS) (hok : okM S) (hnm : m_taut (yd S) = true ∨ ¬ q_find (vML S) (yd S) = none) (hn9 : yn S ≤ 40) (sz : Nat) : xw_Mi l yX1_close wsX1_close ({ frames := 2, cells := 0, slots := 0, locals := 43 }) D vwCl [(cA, .int)] [.ref (q 0)] (wM q cA S) sz (fun (r : Int32) (u : MS) => (r : Int32) = -1 ∧ u = (yk 0 (yn S) (ym S) (yh S) (if m_taut (yd S) = false ∧ yg S < 100 then yg S + 1 else yg S) (yt S) 0 (yse S) (ynu S) (yes S) (yel S) (if m_taut (yd S) = false ∧ yg S < 100 then upd (ygi S) (yg S) (yd S) else ygi S))) (wM q cA) := by
  refine Met.ofW (cc := cX1_close) (maxL := 3) (ret := (some .int)) (by decide) rfl ?_
  intro p e s m args below meth c s₁ B hml hv
  obtain ⟨rfl, hsz, hP, hK, hD0⟩ := hv
  subst hsz
  have hD := hD0.self (sz := s.heap.size)
  have hA : ∀ z, s.heap.size ≤ z → va_A (wM q cA S) s.heap.size z := fun z h => Or.inr h
  have hS : va_S (va_A (wM q cA S) s.heap.size) s.heap s.heap [] := va_S.rf
  obtain ⟨hn40, hh200, hg100⟩ := id hok
  have hx := B.exec
  have hb := B.bytes
  have hr := B.returns
  have hts := atoms_spec (ws := wsX1_close) B.pre
  have hown : s.vm.findClass RX1 = some m.cls := findClass_of_methodNamed B.named
  have hlocks := B.notSynchronized
  have hinX1 : ∀ w ∈ u_ws RX1 TX1 12, w ∈ wsX1_close := fun w h => List.mem_cons_of_mem _ (bw_X1 w h)
  have hf22 := hts _ (List.mem_cons_of_mem _ bw_267)
  have hf25 := hts _ (List.mem_cons_of_mem _ bw_269)
  have hf53 := hts _ (List.mem_cons_of_mem _ bw_258)
  have hf59 := hts _ (List.mem_cons_of_mem _ bw_266)
  have hl := lv_entry ([.ref (q 0)]) (n := 3) (Nat.le_of_ble_eq_true rfl)
  rw [lg_entry_eq]
  generalize (lg_sl ([.ref (q 0)]) ++ List.replicate (3 - (lg_sl ([.ref (q 0)])).length) Slot.unset).toArray = ls at hl ⊢
  have hl : lv_has ls 3 [(0, .ref (q 0))] := hl
  refine lv_aload_n hx hb dX1_close_0 rfl (lv_at hl 0 rfl) ?_
  refine va_get (v := .int (yd S)) hx hb hts hinX1 hown hK hP 0 rfl rfl 0 (by decide) hf53 (fun _ h9 => h9) rfl dX1_close_1 ?_
  refine lv_istore_n (lv' := [(1, .int (yd S)), (0, .ref (q 0))]) hx hb dX1_close_4 rfl hl (by decide) rfl (fun ls hl => ?_)
  refine lv_aload_n hx hb dX1_close_5 rfl (lv_at hl 1 rfl) ?_
  refine lv_iconst (v := 0) hx hb dX1_close_6 (by decide) ?_
  refine va_put (v := .int 0) (ty := .int) hx hb hts hinX1 tyX1 tyX1_ok nmX1 hown hK hP hD hS 0 rfl rfl 0 (by decide) hf53 (fun _ h9 => h9) rfl (by decide +kernel) rfl rfl (Nat.le_of_ble_eq_true rfl) dX1_close_7 (fun H locs hP hD hS => ?_)
  have hP : va_P D vwCl (wM q cA (yk 0 (yn S) (ym S) (yh S) (yg S) (yt S) (yth S) (yse S) (ynu S) (yes S) (yel S) (ygi S))) H := hP
  have hD : va_D _ (wM q cA (yk 0 (yn S) (ym S) (yh S) (yg S) (yt S) (yth S) (yse S) (ynu S) (yes S) (yel S) (ygi S))) := hD
  refine lv_iload_n hx hb dX1_close_10 rfl (lv_at hl 0 rfl) ?_
  refine xc_s (As := [.int (yd S)]) (rest := []) ⟨hx, hb, hml, hown, hts⟩ (kX1_isTautology l (yd S)) (va_cwS 1 hts (gd_S bw_303 bw_304 bw_2 bw_305) rfl rfl rfl (by decide +kernel) ⟨Nat.le_of_ble_eq_true rfl, Nat.le_of_ble_eq_true rfl⟩) rfl hl.1 rfl (Nat.le_of_ble_eq_true rfl) dX1_close_11 ⟨Nat.zero_le _, Nat.zero_le _⟩ ?_
  refine lv_if_ne (tgt := 29) hx hb dX1_close_14 (by decide) (fun hc14 => ?_) (fun hc14 => ?_)
  · have h14 : m_taut (yd S) = true := kb_n0.mp hc14
    refine lv_iconst (v := 0) hx hb dX1_close_29 (by decide) ?_
    refine lv_istore_n (lv' := [(2, .int 0), (1, .int (yd S)), (0, .ref (q 0))]) hx hb dX1_close_30 rfl hl (by decide) rfl (fun ls hl => ?_)
    refine lv_aload_n hx hb dX1_close_31 rfl (lv_at hl 2 rfl) ?_
    refine lv_iload_n hx hb dX1_close_32 rfl (lv_at hl 0 rfl) ?_
    refine lv_if_eq (tgt := 49) hx hb dX1_close_33 (by decide) (fun hc33 => ?_) (fun hc33 => ?_)
    · refine lv_iconst (v := 0) hx hb dX1_close_49 (by decide) ?_
      refine va_put (v := .int 0) (ty := .int) hx hb hts hinX1 tyX1 tyX1_ok nmX1 hown hK hP hD hS 0 rfl rfl 11 (by decide) hf25 (fun _ h9 => h9) rfl (by decide +kernel) rfl rfl (Nat.le_of_ble_eq_true rfl) dX1_close_50 (fun H locs hP hD hS => ?_)
      have hP : va_P D vwCl (wM q cA (yk 0 (yn S) (ym S) (yh S) (yg S) (yt S) 0 (yse S) (ynu S) (yes S) (yel S) (ygi S))) H := hP
      have hD : va_D _ (wM q cA (yk 0 (yn S) (ym S) (yh S) (yg S) (yt S) 0 (yse S) (ynu S) (yes S) (yel S) (ygi S))) := hD
      refine lv_aload_n hx hb dX1_close_53 rfl (lv_at hl 2 rfl) ?_
      refine va_get (v := .int 0) hx hb hts hinX1 hown hK hP 0 rfl rfl 11 (by decide) hf25 (fun _ h9 => h9) rfl dX1_close_54 ?_
      refine lv_if_eq (tgt := 62) hx hb dX1_close_57 (by decide) (fun hc57 => ?_) (fun hc57 => ?_)
      · refine lv_iload_n hx hb dX1_close_62 rfl (lv_at hl 1 rfl) ?_
        refine xc_s (As := [.int (yd S)]) (rest := []) ⟨hx, hb, hml, hown, hts⟩ (kX1_isTautology l (yd S)) (va_cwS 1 hts (gd_S bw_303 bw_304 bw_2 bw_305) rfl rfl rfl (by decide +kernel) ⟨Nat.le_of_ble_eq_true rfl, Nat.le_of_ble_eq_true rfl⟩) rfl hl.1 rfl (Nat.le_of_ble_eq_true rfl) dX1_close_63 ⟨Nat.zero_le _, Nat.zero_le _⟩ ?_
        refine lv_if_ne (tgt := 98) hx hb dX1_close_66 (by decide) (fun hc66 => ?_) (fun hc66 => ?_)
        · have h66 : m_taut (yd S) = true := kb_n0.mp hc66
          refine lv_aload_n hx hb dX1_close_98 rfl (lv_at hl 2 rfl) ?_
          refine lv_iload_n hx hb dX1_close_99 rfl (lv_at hl 1 rfl) ?_
          refine xc_wi (As := [.int (yd S)]) (rest := []) ⟨hx, hb, hml, hown, hts⟩ (kX1_make l D q cA (yk 0 (yn S) (ym S) (yh S) (yg S) (yt S) 0 (yse S) (ynu S) (yes S) (yel S) (ygi S)) ⟨hn40, hh200, hg100⟩ (yd S) (show yn S < 90 by omega) _) (cwV 1 hts (gd_V bw_309 bw_310 bw_435 bw_2 bw_311) rfl rfl rfl (by decide +kernel) ⟨Nat.le_of_ble_eq_true rfl, Nat.le_of_ble_eq_true rfl⟩) (va_recv (ci := 1) (q0 := 0) hK hP rfl rfl) hP hK hD hS hA rfl hl.1 rfl (Nat.le_of_ble_eq_true rfl) dX1_close_100 ⟨Nat.zero_le _, Nat.zero_le _⟩ (fun r2 u1 H locs hu1 hP hD hS => ?_)
          have hpo : (r2 : Int32) = -1 ∧ u1 = (yk 0 (yn S) (ym S) (yh S) (if m_taut (yd S) = false ∧ yg S < 100 then yg S + 1 else yg S) (yt S) 0 (yse S) (ynu S) (yes S) (yel S) (if m_taut (yd S) = false ∧ yg S < 100 then upd (ygi S) (yg S) (yd S) else ygi S)) := ⟨by
            rw [if_pos hnm] at hu1
            exact congrArg Prod.fst hu1, by
            rw [if_pos hnm] at hu1
            have z : u1 = _ := congrArg Prod.snd hu1
            rw [z, if_neg (fun y => by rw [h66] at y; exact absurd y.1 (by decide)), if_neg (fun y => by rw [h66] at y; exact absurd y.1 (by decide))]⟩
          exact W.iret (v := r2) hx hb hr (fun t ht hW => ⟨⟨r2, u1, rfl, hpo, by rw [ht]; exact hP, va_K.moved hW.alike hK, hD⟩, hS.F ht⟩) hS.2.2 dX1_close_103
        · exact absurd (kb_0.mp hc66) (by rw [h14]; decide)
      · exact absurd hc57 (by decide)
    · exact absurd hc33 (by decide)
  · have h14 : m_taut (yd S) = false := kb_0.mp hc14
    refine lv_aload_n hx hb dX1_close_17 rfl (lv_at hl 1 rfl) ?_
    refine lv_iload_n hx hb dX1_close_18 rfl (lv_at hl 0 rfl) ?_
    refine xc_rv (As := [.int (yd S)]) (rest := []) ⟨hx, hb, hml, hown, hts⟩ (kX1_find l D q cA (yk 0 (yn S) (ym S) (yh S) (yg S) (yt S) (yth S) (yse S) (ynu S) (yes S) (yel S) (ygi S)) ⟨hn40, hh200, hg100⟩ (yd S)) (cwV 1 hts (gd_V bw_306 bw_307 bw_434 bw_2 bw_308) rfl rfl rfl (by decide +kernel) ⟨Nat.le_of_ble_eq_true rfl, Nat.le_of_ble_eq_true rfl⟩) (va_recv (ci := 1) (q0 := 0) hK hP rfl rfl) hP hK rfl hl.1 rfl (Nat.le_of_ble_eq_true rfl) dX1_close_19 ⟨Nat.zero_le _, Nat.zero_le _⟩ ?_
    refine lv_if_ge (tgt := 29) hx hb dX1_close_22 (by decide) (fun hc22 => ?_) (fun hc22 => ?_)
    · have h22 : ¬ q_find (vML S) (yd S) = none := fun z => absurd ((q_find_lt0 (by rw [vML_len]; omega)).mpr z) (Int32.not_lt.mpr hc22)
      refine lv_iconst (v := 0) hx hb dX1_close_29 (by decide) ?_
      refine lv_istore_n (lv' := [(2, .int 0), (1, .int (yd S)), (0, .ref (q 0))]) hx hb dX1_close_30 rfl hl (by decide) rfl (fun ls hl => ?_)
      refine lv_aload_n hx hb dX1_close_31 rfl (lv_at hl 2 rfl) ?_
      refine lv_iload_n hx hb dX1_close_32 rfl (lv_at hl 0 rfl) ?_
      refine lv_if_eq (tgt := 49) hx hb dX1_close_33 (by decide) (fun hc33 => ?_) (fun hc33 => ?_)
      · refine lv_iconst (v := 0) hx hb dX1_close_49 (by decide) ?_
        refine va_put (v := .int 0) (ty := .int) hx hb hts hinX1 tyX1 tyX1_ok nmX1 hown hK hP hD hS 0 rfl rfl 11 (by decide) hf25 (fun _ h9 => h9) rfl (by decide +kernel) rfl rfl (Nat.le_of_ble_eq_true rfl) dX1_close_50 (fun H locs hP hD hS => ?_)
        have hP : va_P D vwCl (wM q cA (yk 0 (yn S) (ym S) (yh S) (yg S) (yt S) 0 (yse S) (ynu S) (yes S) (yel S) (ygi S))) H := hP
        have hD : va_D _ (wM q cA (yk 0 (yn S) (ym S) (yh S) (yg S) (yt S) 0 (yse S) (ynu S) (yes S) (yel S) (ygi S))) := hD
        refine lv_aload_n hx hb dX1_close_53 rfl (lv_at hl 2 rfl) ?_
        refine va_get (v := .int 0) hx hb hts hinX1 hown hK hP 0 rfl rfl 11 (by decide) hf25 (fun _ h9 => h9) rfl dX1_close_54 ?_
        refine lv_if_eq (tgt := 62) hx hb dX1_close_57 (by decide) (fun hc57 => ?_) (fun hc57 => ?_)
        · refine lv_iload_n hx hb dX1_close_62 rfl (lv_at hl 1 rfl) ?_
          refine xc_s (As := [.int (yd S)]) (rest := []) ⟨hx, hb, hml, hown, hts⟩ (kX1_isTautology l (yd S)) (va_cwS 1 hts (gd_S bw_303 bw_304 bw_2 bw_305) rfl rfl rfl (by decide +kernel) ⟨Nat.le_of_ble_eq_true rfl, Nat.le_of_ble_eq_true rfl⟩) rfl hl.1 rfl (Nat.le_of_ble_eq_true rfl) dX1_close_63 ⟨Nat.zero_le _, Nat.zero_le _⟩ ?_
          refine lv_if_ne (tgt := 98) hx hb dX1_close_66 (by decide) (fun hc66 => ?_) (fun hc66 => ?_)
          · exact absurd (kb_n0.mp hc66) (by rw [h14]; decide)
          · have h66 : m_taut (yd S) = false := kb_0.mp hc66
            refine lv_aload_n hx hb dX1_close_69 rfl (lv_at hl 2 rfl) ?_
            refine va_get (v := .int (nI (yg S))) hx hb hts hinX1 hown hK hP 0 rfl rfl 8 (by decide) hf59 (fun _ h9 => h9) rfl dX1_close_70 ?_
            refine lv_bipush (v := 100) hx hb dX1_close_73 (by decide) ?_
            refine lv_icmp_ge (tgt := 98) hx hb dX1_close_75 (by decide) (fun hc75 => ?_) (fun hc75 => ?_)
            · have h75 : ¬ yg S < 100 := fun z => absurd (show (100 : Int32) ≤ nI (yg S) from hc75) (nI_ge z (by decide))
              refine lv_aload_n hx hb dX1_close_98 rfl (lv_at hl 2 rfl) ?_
              refine lv_iload_n hx hb dX1_close_99 rfl (lv_at hl 1 rfl) ?_
              refine xc_wi (As := [.int (yd S)]) (rest := []) ⟨hx, hb, hml, hown, hts⟩ (kX1_make l D q cA (yk 0 (yn S) (ym S) (yh S) (yg S) (yt S) 0 (yse S) (ynu S) (yes S) (yel S) (ygi S)) ⟨hn40, hh200, hg100⟩ (yd S) (show yn S < 90 by omega) _) (cwV 1 hts (gd_V bw_309 bw_310 bw_435 bw_2 bw_311) rfl rfl rfl (by decide +kernel) ⟨Nat.le_of_ble_eq_true rfl, Nat.le_of_ble_eq_true rfl⟩) (va_recv (ci := 1) (q0 := 0) hK hP rfl rfl) hP hK hD hS hA rfl hl.1 rfl (Nat.le_of_ble_eq_true rfl) dX1_close_100 ⟨Nat.zero_le _, Nat.zero_le _⟩ (fun r4 u3 H locs hu3 hP hD hS => ?_)
              have hpo : (r4 : Int32) = -1 ∧ u3 = (yk 0 (yn S) (ym S) (yh S) (if m_taut (yd S) = false ∧ yg S < 100 then yg S + 1 else yg S) (yt S) 0 (yse S) (ynu S) (yes S) (yel S) (if m_taut (yd S) = false ∧ yg S < 100 then upd (ygi S) (yg S) (yd S) else ygi S)) := ⟨by
                rw [if_pos hnm] at hu3
                exact congrArg Prod.fst hu3, by
                rw [if_pos hnm] at hu3
                have z : u3 = _ := congrArg Prod.snd hu3
                rw [z, if_neg (fun y => h75 y.2), if_neg (fun y => h75 y.2)]⟩
              exact W.iret (v := r4) hx hb hr (fun t ht hW => ⟨⟨r4, u3, rfl, hpo, by rw [ht]; exact hP, va_K.moved hW.alike hK, hD⟩, hS.F ht⟩) hS.2.2 dX1_close_103
            · have h75 : yg S < 100 := Nat.lt_of_not_le (fun z => hc75 (show (100 : Int32) ≤ nI (yg S) from nI_le z (by omega)))
              refine lv_aload_n hx hb dX1_close_78 rfl (lv_at hl 2 rfl) ?_
              refine va_get (v := .ref (q 5)) hx hb hts hinX1 hown hK hP 0 rfl rfl 9 (by decide) hf22 (fun _ h9 => h9) rfl dX1_close_79 ?_
              refine lv_aload_n hx hb dX1_close_82 rfl (lv_at hl 2 rfl) ?_
              refine va_get (v := .int (nI (yg S))) hx hb hts hinX1 hown hK hP 0 rfl rfl 8 (by decide) hf59 (fun _ h9 => h9) rfl dX1_close_83 ?_
              refine lv_iload_n hx hb dX1_close_86 rfl (lv_at hl 1 rfl) ?_
              refine xa_st hx hb hK hP hD hS 5 0 rfl rfl (yg S) (by omega) (by first | decide | assumption) dX1_close_87 (fun H locs hP hD hS => ?_)
              have hP : va_P D vwCl (wM q cA (yk 0 (yn S) (ym S) (yh S) (yg S) (yt S) 0 (yse S) (ynu S) (yes S) (yel S) (upd (ygi S) (yg S) (yd S)))) H := hP
              have hD : va_D _ (wM q cA (yk 0 (yn S) (ym S) (yh S) (yg S) (yt S) 0 (yse S) (ynu S) (yes S) (yel S) (upd (ygi S) (yg S) (yd S)))) := hD
              refine lv_aload_n hx hb dX1_close_88 rfl (lv_at hl 2 rfl) ?_
              refine lv_dup hx hb dX1_close_89 rfl ?_
              refine va_get (v := .int (nI (yg S))) hx hb hts hinX1 hown hK hP 0 rfl rfl 8 (by decide) hf59 (fun _ h9 => h9) rfl dX1_close_90 ?_
              refine lv_iconst (v := 1) hx hb dX1_close_93 (by decide) ?_
              refine xi_inc hx hb dX1_close_94 ?_
              refine va_put (v := .int (nI (yg S + 1))) (ty := .int) hx hb hts hinX1 tyX1 tyX1_ok nmX1 hown hK hP hD hS 0 rfl rfl 8 (by decide) hf59 (fun _ h9 => h9) rfl (by decide +kernel) rfl rfl (Nat.le_of_ble_eq_true rfl) dX1_close_95 (fun H locs hP hD hS => ?_)
              have hP : va_P D vwCl (wM q cA (yk 0 (yn S) (ym S) (yh S) (yg S + 1) (yt S) 0 (yse S) (ynu S) (yes S) (yel S) (upd (ygi S) (yg S) (yd S)))) H := hP
              have hD : va_D _ (wM q cA (yk 0 (yn S) (ym S) (yh S) (yg S + 1) (yt S) 0 (yse S) (ynu S) (yes S) (yel S) (upd (ygi S) (yg S) (yd S)))) := hD
              refine lv_aload_n hx hb dX1_close_98 rfl (lv_at hl 2 rfl) ?_
              refine lv_iload_n hx hb dX1_close_99 rfl (lv_at hl 1 rfl) ?_
              refine xc_wi (As := [.int (yd S)]) (rest := []) ⟨hx, hb, hml, hown, hts⟩ (kX1_make l D q cA (yk 0 (yn S) (ym S) (yh S) (yg S + 1) (yt S) 0 (yse S) (ynu S) (yes S) (yel S) (upd (ygi S) (yg S) (yd S))) ⟨hn40, hh200, (show yg S + 1 ≤ 100 by omega)⟩ (yd S) (show yn S < 90 by omega) _) (cwV 1 hts (gd_V bw_309 bw_310 bw_435 bw_2 bw_311) rfl rfl rfl (by decide +kernel) ⟨Nat.le_of_ble_eq_true rfl, Nat.le_of_ble_eq_true rfl⟩) (va_recv (ci := 1) (q0 := 0) hK hP rfl rfl) hP hK hD hS hA rfl hl.1 rfl (Nat.le_of_ble_eq_true rfl) dX1_close_100 ⟨Nat.zero_le _, Nat.zero_le _⟩ (fun r6 u5 H locs hu5 hP hD hS => ?_)
              have hpo : (r6 : Int32) = -1 ∧ u5 = (yk 0 (yn S) (ym S) (yh S) (if m_taut (yd S) = false ∧ yg S < 100 then yg S + 1 else yg S) (yt S) 0 (yse S) (ynu S) (yes S) (yel S) (if m_taut (yd S) = false ∧ yg S < 100 then upd (ygi S) (yg S) (yd S) else ygi S)) := ⟨by
                rw [if_pos hnm] at hu5
                exact congrArg Prod.fst hu5, by
                rw [if_pos hnm] at hu5
                have z : u5 = _ := congrArg Prod.snd hu5
                rw [z, if_pos ⟨h66, h75⟩, if_pos ⟨h66, h75⟩]⟩
              exact W.iret (v := r6) hx hb hr (fun t ht hW => ⟨⟨r6, u5, rfl, hpo, by rw [ht]; exact hP, va_K.moved hW.alike hK, hD⟩, hS.F ht⟩) hS.2.2 dX1_close_103
        · exact absurd hc57 (by decide)
      · exact absurd hc33 (by decide)
    · exact hnm.elim (fun z => absurd z (by rw [h14]; decide)) (fun z => (z ((q_find_lt0 (by rw [vML_len]; omega)).mp (Int32.not_le.mp hc22))).elim)
