/-! The reference: turns. -/
set_option maxHeartbeats 4000000 in
set_option maxRecDepth 100000 in
theorem kX1_subsume (l : Launch) (D : va_G) (q : Nat → Nat) (cA : ClassId) (S : MS) (hok : okM S)  (sz : Nat) : xw_Mi l yX1_subsume wsX1_subsume ({ frames := 1, cells := 0, slots := 0, locals := 22 }) D vwCl [(cA, .int)] [.ref (q 0)] (wM q cA S) sz (fun (r : Int32) (u : MS) => y_same S u ∧ (r, vML u) = (match q_sub (vML S) with | none => ((0 : Int32), vML S) | some c => (1, (vML S).eraseIdx c))) (wM q cA) := by
  refine Met.ofW (cc := cX1_subsume) (maxL := 3) (ret := (some .int)) (by decide) rfl ?_
  intro p e s m args below meth c s₁ B hml hv
  obtain ⟨rfl, hsz, hP, hK, hD0⟩ := hv
  subst hsz
  have hD := hD0.self (sz := s.heap.size)
  have hA : ∀ z, s.heap.size ≤ z → va_A (wM q cA S) s.heap.size z := fun z h => Or.inr h
  have hS : va_S (va_A (wM q cA S) s.heap.size) s.heap s.heap [] := va_S.rf
  obtain ⟨hn40, hh200, hg100⟩ := id hok
  have hx := B.exec
  have hb := B.bytes
  have hr := B.returns
  have hts := atoms_spec (ws := wsX1_subsume) B.pre
  have hown : s.vm.findClass RX1 = some m.cls := findClass_of_methodNamed B.named
  have hlocks := B.notSynchronized
  have hinX1 : ∀ w ∈ u_ws RX1 TX1 12, w ∈ wsX1_subsume := fun w h => List.mem_cons_of_mem _ (bw_X1 w h)
  have hf7 := hts _ (List.mem_cons_of_mem _ bw_260)
  have hf33 := hts _ (List.mem_cons_of_mem _ bw_259)
  have hl := lv_entry ([.ref (q 0)]) (n := 3) (Nat.le_of_ble_eq_true rfl)
  rw [lg_entry_eq]
  generalize (lg_sl ([.ref (q 0)]) ++ List.replicate (3 - (lg_sl ([.ref (q 0)])).length) Slot.unset).toArray = ls at hl ⊢
  have hl : lv_has ls 3 [(0, .ref (q 0))] := hl
  refine lv_iconst (v := 0) hx hb dX1_subsume_0 (by decide) ?_
  refine lv_istore_n (lv' := [(1, .int 0), (0, .ref (q 0))]) hx hb dX1_subsume_1 rfl hl (by decide) rfl (fun ls hl => ?_)
  refine wlr (σ := Nat) (fun (k : Nat) ls => lv_has ls 3 [(1, .int (nI k)), (0, .ref (q 0))] ∧ k ≤ yn S ∧ q_up (fun c => q_sub1 (vML S) c) (yn S - 0) 0 = q_up (fun c => q_sub1 (vML S) c) (yn S - k) k) (fun (k : Nat) => yn S - k) 0 ⟨lv_sub hl [0, 1] rfl, (by omega), rfl⟩ ?_
  intro k ls hI ih2
  obtain ⟨hl, hk, hq⟩ := hI
  have hl : lv_has ls 3 [(1, .int (nI k)), (0, .ref (q 0))] := hl
  refine lv_iload_n hx hb dX1_subsume_2 rfl (lv_at hl 0 rfl) ?_
  refine lv_aload_n hx hb dX1_subsume_3 rfl (lv_at hl 1 rfl) ?_
  refine va_get (v := .int (nI (yn S))) hx hb hts hinX1 hown hK hP 0 rfl rfl 1 (by decide) hf33 (fun _ h9 => h9) rfl dX1_subsume_4 ?_
  refine lv_icmp_ge (tgt := 62) hx hb dX1_subsume_7 (by decide) (fun hc7 => ?_) (fun hc7 => ?_)
  · have hge : yn S ≤ k := (nI_leI (by omega) (by omega)).mp hc7
    refine lv_iconst (v := 0) hx hb dX1_subsume_62 (by decide) ?_
    have hpo : y_same S S ∧ (0, vML S) = (match q_sub (vML S) with | none => ((0 : Int32), vML S) | some c => (1, (vML S).eraseIdx c)) := ⟨y_same.rf S, by rw [show q_sub (vML S) = q_up (fun c => q_sub1 (vML S) c) (yn S - 0) 0 from by unfold q_sub; rw [cl_of_len]; rfl, hq, q_up_end hge]⟩
    exact W.iret (v := 0) hx hb hr (fun t ht hW => ⟨⟨0, S, rfl, hpo, by rw [ht]; exact hP, va_K.moved hW.alike hK, hD⟩, hS.F ht⟩) hS.2.2 dX1_subsume_63
  · have hlt : k < yn S := Nat.lt_of_not_le (fun z => hc7 ((nI_leI (by omega) (by omega)).mpr z))
    have hsk : q_set (vML S) k = yse S k := q_set_of hlt
    have e1 : q_sub1 (vML S) k = (q_up (fun d => d != k && (q_set (vML S) d &&& k_not (q_set (vML S) k)) == 0) (yn S - 0) 0).isSome := by unfold q_sub1; rw [cl_of_len]; rfl
    refine lv_iconst (v := 0) hx hb dX1_subsume_10 (by decide) ?_
    refine lv_istore_n (lv' := [(2, .int 0), (1, .int (nI k)), (0, .ref (q 0))]) hx hb dX1_subsume_11 rfl hl (by decide) rfl (fun ls hl => ?_)
    refine wlr (σ := Nat) (fun (j : Nat) ls => lv_has ls 3 [(2, .int (nI j)), (1, .int (nI k)), (0, .ref (q 0))] ∧ j ≤ yn S ∧ q_up (fun d => d != k && (q_set (vML S) d &&& k_not (q_set (vML S) k)) == 0) (yn S - 0) 0 = q_up (fun d => d != k && (q_set (vML S) d &&& k_not (q_set (vML S) k)) == 0) (yn S - j) j) (fun (j : Nat) => yn S - j) 0 ⟨lv_sub hl [0, 1, 2] rfl, (by omega), rfl⟩ ?_
    intro j ls hI ih12
    obtain ⟨hl, hk2, hq2⟩ := hI
    have hl : lv_has ls 3 [(2, .int (nI j)), (1, .int (nI k)), (0, .ref (q 0))] := hl
    refine lv_iload_n hx hb dX1_subsume_12 rfl (lv_at hl 0 rfl) ?_
    refine lv_aload_n hx hb dX1_subsume_13 rfl (lv_at hl 2 rfl) ?_
    refine va_get (v := .int (nI (yn S))) hx hb hts hinX1 hown hK hP 0 rfl rfl 1 (by decide) hf33 (fun _ h9 => h9) rfl dX1_subsume_14 ?_
    refine lv_icmp_ge (tgt := 56) hx hb dX1_subsume_17 (by decide) (fun hc17 => ?_) (fun hc17 => ?_)
    · have hge2 : yn S ≤ j := (nI_leI (by omega) (by omega)).mp hc17
      have hn1 : q_sub1 (vML S) k = false := by rw [e1, hq2, q_up_end hge2]; rfl
      refine lv_iinc (k := 1) (v := nI (k + 1)) (lv' := [(1, .int (nI (k + 1))), (2, .int (nI j)), (0, .ref (q 0))]) hx hb dX1_subsume_56 hl rfl (ii_1 _) (by decide) rfl (fun ls hl => ?_)
      refine lv_goto (tgt := 2) hx hb dX1_subsume_59 (by decide) ?_
      exact ih2 (k + 1) _ ⟨lv_sub hl [0, 2] rfl, (by omega), hq.trans (q_up_f hlt hn1)⟩ (by omega)
    · have hlt2 : j < yn S := Nat.lt_of_not_le (fun z => hc17 ((nI_leI (by omega) (by omega)).mpr z))
      have hs : q_set (vML S) j = yse S j := q_set_of hlt2
      refine lv_iload_n hx hb dX1_subsume_20 rfl (lv_at hl 1 rfl) ?_
      refine lv_iload_n hx hb dX1_subsume_21 rfl (lv_at hl 0 rfl) ?_
      refine lv_icmp_eq (tgt := 50) hx hb dX1_subsume_22 (by decide) (fun hc22 => ?_) (fun hc22 => ?_)
      · have hc22 : j = k := ((nI_eq (by omega) (by omega)).mp hc22).symm
        refine lv_iinc (k := 0) (v := nI (j + 1)) (lv' := [(2, .int (nI (j + 1))), (1, .int (nI k)), (0, .ref (q 0))]) hx hb dX1_subsume_50 hl rfl (ii_1 _) (by decide) rfl (fun ls hl => ?_)
        refine lv_goto (tgt := 12) hx hb dX1_subsume_53 (by decide) ?_
        exact ih12 (j + 1) _ ⟨lv_sub hl [0, 1, 2] rfl, (by omega), hq2.trans (q_up_f hlt2 (by simp [hc22, hs, hsk]))⟩ (by omega)
      · have hc22 : ¬ j = k := fun z => hc22 (by rw [z])
        refine lv_aload_n hx hb dX1_subsume_25 rfl (lv_at hl 2 rfl) ?_
        refine va_get (v := .ref (q 1)) hx hb hts hinX1 hown hK hP 0 rfl rfl 2 (by decide) hf7 (fun _ h9 => h9) rfl dX1_subsume_26 ?_
        refine lv_iload_n hx hb dX1_subsume_29 rfl (lv_at hl 0 rfl) ?_
        refine xa_ld hx hb hK hP 1 0 rfl rfl j (by omega) (by first | decide | assumption) dX1_subsume_30 ?_
        refine lv_aload_n hx hb dX1_subsume_31 rfl (lv_at hl 2 rfl) ?_
        refine va_get (v := .ref (q 1)) hx hb hts hinX1 hown hK hP 0 rfl rfl 2 (by decide) hf7 (fun _ h9 => h9) rfl dX1_subsume_32 ?_
        refine lv_iload_n hx hb dX1_subsume_35 rfl (lv_at hl 1 rfl) ?_
        refine xa_ld hx hb hK hP 1 0 rfl rfl k (by omega) (by first | decide | assumption) dX1_subsume_36 ?_
        refine lv_iconst (v := (-1)) hx hb dX1_subsume_37 (by decide) ?_
        refine xi_not hx hb dX1_subsume_38 ?_
        refine lv_iand hx hb dX1_subsume_39 ?_
        refine lv_if_ne (tgt := 50) hx hb dX1_subsume_40 (by decide) (fun hc40 => ?_) (fun hc40 => ?_)
        · refine lv_iinc (k := 0) (v := nI (j + 1)) (lv' := [(2, .int (nI (j + 1))), (1, .int (nI k)), (0, .ref (q 0))]) hx hb dX1_subsume_50 hl rfl (ii_1 _) (by decide) rfl (fun ls hl => ?_)
          refine lv_goto (tgt := 12) hx hb dX1_subsume_53 (by decide) ?_
          exact ih12 (j + 1) _ ⟨lv_sub hl [0, 1, 2] rfl, (by omega), hq2.trans (q_up_f hlt2 (by simp [hc22, hc40, hs, hsk]))⟩ (by omega)
        · refine lv_aload_n hx hb dX1_subsume_43 rfl (lv_at hl 2 rfl) ?_
          refine lv_iload_n hx hb dX1_subsume_44 rfl (lv_at hl 1 rfl) ?_
          refine xc_wv (As := [.int (nI k)]) (rest := []) ⟨hx, hb, hml, hown, hts⟩ (kX1_remove l D q cA S hok k (by omega) _) (cwV 1 hts (gd_V bw_325 bw_326 bw_438 bw_2 bw_327) rfl rfl rfl (by decide +kernel) ⟨Nat.le_of_ble_eq_true rfl, Nat.le_of_ble_eq_true rfl⟩) (va_recv (ci := 1) (q0 := 0) hK hP rfl rfl) hP hK hD hS hA rfl hl.1 rfl (Nat.le_of_ble_eq_true rfl) dX1_subsume_45 ⟨Nat.zero_le _, Nat.zero_le _⟩ (fun u1 H locs hu1 hP hD hS => ?_)
          refine lv_iconst (v := 1) hx hb dX1_subsume_48 (by decide) ?_
          have hpo : y_same S u1 ∧ (1, vML u1) = (match q_sub (vML S) with | none => ((0 : Int32), vML S) | some c => (1, (vML S).eraseIdx c)) := ⟨by rw [hu1]; rfl, by
            have f1 : q_sub1 (vML S) k = true := by rw [e1, hq2, q_up_t hlt2 (by simp [hs, hsk, hc22, hc40])]; rfl
            rw [show q_sub (vML S) = q_up (fun c => q_sub1 (vML S) c) (yn S - 0) 0 from by unfold q_sub; rw [cl_of_len]; rfl, hq, q_up_t hlt f1, hu1]
            exact congrArg (Prod.mk (1 : Int32)) (rmv_cl hlt (yse S) (ynu S))⟩
          exact W.iret (v := 1) hx hb hr (fun t ht hW => ⟨⟨1, u1, rfl, hpo, by rw [ht]; exact hP, va_K.moved hW.alike hK, hD⟩, hS.F ht⟩) hS.2.2 dX1_subsume_49

set_option maxHeartbeats 4000000 in
set_option maxRecDepth 100000 in
theorem kX1_strengthen (l : Launch) (D : va_G) (q : Nat → Nat) (cA : ClassId) (S : MS) (hok : okM S) (hg : g_cl (vML S)) (sz : Nat) : xw_Mi l yX1_strengthen wsX1_strengthen ({ frames := 2, cells := 0, slots := 0, locals := 46 }) D vwCl [(cA, .int)] [.ref (q 0)] (wM q cA S) sz (fun (r : Int32) (u : MS) => y_same S u ∧ (r, vML u) = (match q_str (vML S) with | none => ((0 : Int32), vML S) | some c => q_stN (vML S) c)) (wM q cA) := by
  refine Met.ofW (cc := cX1_strengthen) (maxL := 4) (ret := (some .int)) (by decide) rfl ?_
  intro p e s m args below meth c s₁ B hml hv
  obtain ⟨rfl, hsz, hP, hK, hD0⟩ := hv
  subst hsz
  have hD := hD0.self (sz := s.heap.size)
  have hA : ∀ z, s.heap.size ≤ z → va_A (wM q cA S) s.heap.size z := fun z h => Or.inr h
  have hS : va_S (va_A (wM q cA S) s.heap.size) s.heap s.heap [] := va_S.rf
  obtain ⟨hn40, hh200, hg100⟩ := id hok
  have hx := B.exec
  have hb := B.bytes
  have hr := B.returns
  have hts := atoms_spec (ws := wsX1_strengthen) B.pre
  have hown : s.vm.findClass RX1 = some m.cls := findClass_of_methodNamed B.named
  have hlocks := B.notSynchronized
  have hinX1 : ∀ w ∈ u_ws RX1 TX1 12, w ∈ wsX1_strengthen := fun w h => List.mem_cons_of_mem _ (bw_X1 w h)
  have hf7 := hts _ (List.mem_cons_of_mem _ bw_260)
  have hf33 := hts _ (List.mem_cons_of_mem _ bw_259)
  have hl := lv_entry ([.ref (q 0)]) (n := 4) (Nat.le_of_ble_eq_true rfl)
  rw [lg_entry_eq]
  generalize (lg_sl ([.ref (q 0)]) ++ List.replicate (4 - (lg_sl ([.ref (q 0)])).length) Slot.unset).toArray = ls at hl ⊢
  have hl : lv_has ls 4 [(0, .ref (q 0))] := hl
  refine lv_iconst (v := 0) hx hb dX1_strengthen_0 (by decide) ?_
  refine lv_istore_n (lv' := [(1, .int 0), (0, .ref (q 0))]) hx hb dX1_strengthen_1 rfl hl (by decide) rfl (fun ls hl => ?_)
  refine wlr (σ := Nat) (fun (k : Nat) ls => lv_has ls 4 [(1, .int (nI k)), (0, .ref (q 0))] ∧ k ≤ yn S ∧ q_up (fun c => (q_st1 (vML S) c).isSome) (yn S - 0) 0 = q_up (fun c => (q_st1 (vML S) c).isSome) (yn S - k) k) (fun (k : Nat) => yn S - k) 0 ⟨lv_sub hl [0, 1] rfl, (by omega), rfl⟩ ?_
  intro k ls hI ih2
  obtain ⟨hl, hk, hq⟩ := hI
  have hl : lv_has ls 4 [(1, .int (nI k)), (0, .ref (q 0))] := hl
  refine lv_iload_n hx hb dX1_strengthen_2 rfl (lv_at hl 0 rfl) ?_
  refine lv_aload_n hx hb dX1_strengthen_3 rfl (lv_at hl 1 rfl) ?_
  refine va_get (v := .int (nI (yn S))) hx hb hts hinX1 hown hK hP 0 rfl rfl 1 (by decide) hf33 (fun _ h9 => h9) rfl dX1_strengthen_4 ?_
  refine lv_icmp_ge (tgt := 85) hx hb dX1_strengthen_7 (by decide) (fun hc7 => ?_) (fun hc7 => ?_)
  · have hge : yn S ≤ k := (nI_leI (by omega) (by omega)).mp hc7
    refine lv_iconst (v := 0) hx hb dX1_strengthen_85 (by decide) ?_
    have hpo : y_same S S ∧ (0, vML S) = (match q_str (vML S) with | none => ((0 : Int32), vML S) | some c => q_stN (vML S) c) := ⟨y_same.rf S, by rw [show q_str (vML S) = q_up (fun c => (q_st1 (vML S) c).isSome) (yn S - 0) 0 from by unfold q_str; rw [cl_of_len]; rfl, hq, q_up_end hge]⟩
    exact W.iret (v := 0) hx hb hr (fun t ht hW => ⟨⟨0, S, rfl, hpo, by rw [ht]; exact hP, va_K.moved hW.alike hK, hD⟩, hS.F ht⟩) hS.2.2 dX1_strengthen_86
  · have hlt : k < yn S := Nat.lt_of_not_le (fun z => hc7 ((nI_leI (by omega) (by omega)).mpr z))
    have hsk : q_set (vML S) k = yse S k := q_set_of hlt
    have gk := g_cl_at hg (k := k) (by rw [vML_len]; exact hlt)
    rw [hsk] at gk
    have e1 : q_st1 (vML S) k = q_up (fun d => k_sl (q_set (vML S) k) (q_set (vML S) d) != 0) (yn S - 0) 0 := by unfold q_st1; rw [cl_of_len]; rfl
    refine lv_iconst (v := 0) hx hb dX1_strengthen_10 (by decide) ?_
    refine lv_istore_n (lv' := [(2, .int 0), (1, .int (nI k)), (0, .ref (q 0))]) hx hb dX1_strengthen_11 rfl hl (by decide) rfl (fun ls hl => ?_)
    refine wlr (σ := Nat) (fun (j : Nat) ls => lv_has ls 4 [(2, .int (nI j)), (1, .int (nI k)), (0, .ref (q 0))] ∧ j ≤ yn S ∧ q_up (fun d => k_sl (q_set (vML S) k) (q_set (vML S) d) != 0) (yn S - 0) 0 = q_up (fun d => k_sl (q_set (vML S) k) (q_set (vML S) d) != 0) (yn S - j) j) (fun (j : Nat) => yn S - j) 0 ⟨lv_sub hl [0, 1, 2] rfl, (by omega), rfl⟩ ?_
    intro j ls hI ih12
    obtain ⟨hl, hk2, hq2⟩ := hI
    have hl : lv_has ls 4 [(2, .int (nI j)), (1, .int (nI k)), (0, .ref (q 0))] := hl
    refine lv_iload_n hx hb dX1_strengthen_12 rfl (lv_at hl 0 rfl) ?_
    refine lv_aload_n hx hb dX1_strengthen_13 rfl (lv_at hl 2 rfl) ?_
    refine va_get (v := .int (nI (yn S))) hx hb hts hinX1 hown hK hP 0 rfl rfl 1 (by decide) hf33 (fun _ h9 => h9) rfl dX1_strengthen_14 ?_
    refine lv_icmp_ge (tgt := 79) hx hb dX1_strengthen_17 (by decide) (fun hc17 => ?_) (fun hc17 => ?_)
    · have hge2 : yn S ≤ j := (nI_leI (by omega) (by omega)).mp hc17
      have hn1 : q_st1 (vML S) k = none := by rw [e1, hq2, q_up_end hge2]
      refine lv_iinc (k := 1) (v := nI (k + 1)) (lv' := [(1, .int (nI (k + 1))), (2, .int (nI j)), (0, .ref (q 0))]) hx hb dX1_strengthen_79 hl rfl (ii_1 _) (by decide) rfl (fun ls hl => ?_)
      refine lv_goto (tgt := 2) hx hb dX1_strengthen_82 (by decide) ?_
      exact ih2 (k + 1) _ ⟨lv_sub hl [0, 2] rfl, (by omega), hq.trans (q_up_f hlt (by simp [hn1]))⟩ (by omega)
    · have hlt2 : j < yn S := Nat.lt_of_not_le (fun z => hc17 ((nI_leI (by omega) (by omega)).mpr z))
      have hs : q_set (vML S) j = yse S j := q_set_of hlt2
      have gj := g_cl_at hg (k := j) (by rw [vML_len]; exact hlt2)
      rw [hs] at gj
      refine lv_iload_n hx hb dX1_strengthen_20 rfl (lv_at hl 1 rfl) ?_
      refine lv_iload_n hx hb dX1_strengthen_21 rfl (lv_at hl 0 rfl) ?_
      refine lv_icmp_ne (tgt := 29) hx hb dX1_strengthen_22 (by decide) (fun hc22 => ?_) (fun hc22 => ?_)
      · refine lv_aload_n hx hb dX1_strengthen_29 rfl (lv_at hl 2 rfl) ?_
        refine va_get (v := .ref (q 1)) hx hb hts hinX1 hown hK hP 0 rfl rfl 2 (by decide) hf7 (fun _ h9 => h9) rfl dX1_strengthen_30 ?_
        refine lv_iload_n hx hb dX1_strengthen_33 rfl (lv_at hl 1 rfl) ?_
        refine xa_ld hx hb hK hP 1 0 rfl rfl k (by omega) (by first | decide | assumption) dX1_strengthen_34 ?_
        refine lv_aload_n hx hb dX1_strengthen_35 rfl (lv_at hl 2 rfl) ?_
        refine va_get (v := .ref (q 1)) hx hb hts hinX1 hown hK hP 0 rfl rfl 2 (by decide) hf7 (fun _ h9 => h9) rfl dX1_strengthen_36 ?_
        refine lv_iload_n hx hb dX1_strengthen_39 rfl (lv_at hl 0 rfl) ?_
        refine xa_ld hx hb hK hP 1 0 rfl rfl j (by omega) (by first | decide | assumption) dX1_strengthen_40 ?_
        refine xc_s (As := [.int ((yse S) k), .int ((yse S) j)]) (rest := []) ⟨hx, hb, hml, hown, hts⟩ (kX1_against l ((yse S) k) ((yse S) j)) (va_cwS 2 hts (gd_S bw_337 bw_338 bw_2 bw_339) rfl rfl rfl (by decide +kernel) ⟨Nat.le_of_ble_eq_true rfl, Nat.le_of_ble_eq_true rfl⟩) rfl hl.1 rfl (Nat.le_of_ble_eq_true rfl) dX1_strengthen_41 ⟨Nat.zero_le _, Nat.zero_le _⟩ ?_
        refine lv_istore_n (lv' := [(3, .int (m_agr ((yse S) k) ((yse S) j))), (2, .int (nI j)), (1, .int (nI k)), (0, .ref (q 0))]) hx hb dX1_strengthen_44 rfl hl (by decide) rfl (fun ls hl => ?_)
        refine lv_iload_n hx hb dX1_strengthen_45 rfl (lv_at hl 0 rfl) ?_
        refine lv_if_le (tgt := 73) hx hb dX1_strengthen_46 (by decide) (fun hc46 => ?_) (fun hc46 => ?_)
        · have hz9 : k_sl (yse S k) (yse S j) = 0 := (agr_le gk gj).mp hc46
          refine lv_iinc (k := 1) (v := nI (j + 1)) (lv' := [(2, .int (nI (j + 1))), (3, .int (m_agr ((yse S) k) ((yse S) j))), (1, .int (nI k)), (0, .ref (q 0))]) hx hb dX1_strengthen_73 hl rfl (ii_1 _) (by decide) rfl (fun ls hl => ?_)
          refine lv_goto (tgt := 12) hx hb dX1_strengthen_76 (by decide) ?_
          exact ih12 (j + 1) _ ⟨lv_sub hl [0, 2, 3] rfl, (by omega), hq2.trans (q_up_f hlt2 (by simp [hs, hsk, hz9]))⟩ (by omega)
        · have hz9 : ¬ k_sl (yse S k) (yse S j) = 0 := fun z => hc46 ((agr_le gk gj).mpr z)
          obtain ⟨v, hv1, hv2, hv3, hv4⟩ := agr_v gk gj hz9
          have hl : lv_has ls 4 [(3, .int (nI v)), (2, .int (nI j)), (1, .int (nI k)), (0, .ref (q 0))] := by rw [hv3] at hl; exact hl
          refine lv_aload_n hx hb dX1_strengthen_49 rfl (lv_at hl 3 rfl) ?_
          refine lv_iload_n hx hb dX1_strengthen_50 rfl (lv_at hl 2 rfl) ?_
          refine lv_aload_n hx hb dX1_strengthen_51 rfl (lv_at hl 3 rfl) ?_
          refine va_get (v := .ref (q 1)) hx hb hts hinX1 hown hK hP 0 rfl rfl 2 (by decide) hf7 (fun _ h9 => h9) rfl dX1_strengthen_52 ?_
          refine lv_iload_n hx hb dX1_strengthen_55 rfl (lv_at hl 2 rfl) ?_
          refine xa_ld hx hb hK hP 1 0 rfl rfl k (by omega) (by first | decide | assumption) dX1_strengthen_56 ?_
          refine lv_iload_n hx hb dX1_strengthen_57 rfl (lv_at hl 0 rfl) ?_
          refine xc_s (As := [.int (nI v)]) (rest := [.int ((yse S) k), .int (nI k), .ref (q 0)]) ⟨hx, hb, hml, hown, hts⟩ (kX1_bit l (nI v)) (va_cwS 1 hts (gd_S bw_293 bw_294 bw_2 bw_295) rfl rfl rfl (by decide +kernel) ⟨Nat.le_of_ble_eq_true rfl, Nat.le_of_ble_eq_true rfl⟩) rfl hl.1 rfl (Nat.le_of_ble_eq_true rfl) dX1_strengthen_58 ⟨Nat.zero_le _, Nat.zero_le _⟩ ?_
          refine lv_iload_n hx hb dX1_strengthen_61 rfl (lv_at hl 0 rfl) ?_
          refine lv_ineg hx hb dX1_strengthen_62 ?_
          refine xc_s (As := [.int (-(nI v))]) (rest := [.int (m_bit (nI v)), .int ((yse S) k), .int (nI k), .ref (q 0)]) ⟨hx, hb, hml, hown, hts⟩ (kX1_bit l (-(nI v))) (va_cwS 1 hts (gd_S bw_293 bw_294 bw_2 bw_295) rfl rfl rfl (by decide +kernel) ⟨Nat.le_of_ble_eq_true rfl, Nat.le_of_ble_eq_true rfl⟩) rfl hl.1 rfl (Nat.le_of_ble_eq_true rfl) dX1_strengthen_63 ⟨Nat.zero_le _, Nat.zero_le _⟩ ?_
          refine lv_ior hx hb dX1_strengthen_66 ?_
          refine lv_iand hx hb dX1_strengthen_67 ?_
          refine lv_topi (fun z1 ez1 => ?_)
          obtain rfl : z1 = k_sl (yse S k) (yse S j) := ez1.trans (by rw [mb_both v (by omega) hv1, hv4])
          refine xc_wv (As := [.int (nI k), .int (k_sl (yse S k) (yse S j))]) (rest := []) ⟨hx, hb, hml, hown, hts⟩ (kX1_take l D q cA S hok k (k_sl (yse S k) (yse S j)) hlt _) (cwV 2 hts (gd_V bw_328 bw_329 bw_439 bw_2 bw_330) rfl rfl rfl (by decide +kernel) ⟨Nat.le_of_ble_eq_true rfl, Nat.le_of_ble_eq_true rfl⟩) (va_recv (ci := 1) (q0 := 0) hK hP rfl rfl) hP hK hD hS hA rfl hl.1 rfl (Nat.le_of_ble_eq_true rfl) dX1_strengthen_68 ⟨Nat.zero_le _, Nat.zero_le _⟩ (fun u2 H locs hu2 hP hD hS => ?_)
          refine lv_iconst (v := 1) hx hb dX1_strengthen_71 (by decide) ?_
          have hpo : y_same S u2 ∧ (1, vML u2) = (match q_str (vML S) with | none => ((0 : Int32), vML S) | some c => q_stN (vML S) c) := ⟨hu2.1, by
            have f1 : q_st1 (vML S) k = some j := by rw [e1, hq2, q_up_t hlt2 (by simp [hs, hsk, hz9])]
            rw [show q_str (vML S) = q_up (fun c => (q_st1 (vML S) c).isSome) (yn S - 0) 0 from by unfold q_str; rw [cl_of_len]; rfl, hq, q_up_t hlt (by simp [f1])]
            show ((1 : Int32), vML u2) = q_stN (vML S) k
            unfold q_stN
            rw [f1, hu2.2]
            show ((1 : Int32), _) = (1, q_take (vML S) k (k_sl (q_set (vML S) k) (q_set (vML S) j)))
            rw [hs, hsk]⟩
          exact W.iret (v := 1) hx hb hr (fun t ht hW => ⟨⟨1, u2, rfl, hpo, by rw [ht]; exact hP, va_K.moved hW.alike hK, hD⟩, hS.F ht⟩) hS.2.2 dX1_strengthen_72
      · have hc22 : k = j := (nI_eq (by omega) (by omega)).mp hc22
        refine lv_iconst (v := 0) hx hb dX1_strengthen_25 (by decide) ?_
        refine lv_goto (tgt := 44) hx hb dX1_strengthen_26 (by decide) ?_
        refine lv_istore_n (lv' := [(3, .int 0), (2, .int (nI j)), (1, .int (nI k)), (0, .ref (q 0))]) hx hb dX1_strengthen_44 rfl hl (by decide) rfl (fun ls hl => ?_)
        refine lv_iload_n hx hb dX1_strengthen_45 rfl (lv_at hl 0 rfl) ?_
        refine lv_if_le (tgt := 73) hx hb dX1_strengthen_46 (by decide) (fun hc46 => ?_) (fun hc46 => ?_)
        · have hz9 : k_sl (yse S k) (yse S j) = 0 := by rw [hc22]; exact sl_self _
          refine lv_iinc (k := 1) (v := nI (j + 1)) (lv' := [(2, .int (nI (j + 1))), (3, .int 0), (1, .int (nI k)), (0, .ref (q 0))]) hx hb dX1_strengthen_73 hl rfl (ii_1 _) (by decide) rfl (fun ls hl => ?_)
          refine lv_goto (tgt := 12) hx hb dX1_strengthen_76 (by decide) ?_
          exact ih12 (j + 1) _ ⟨lv_sub hl [0, 2, 3] rfl, (by omega), hq2.trans (q_up_f hlt2 (by simp [hs, hsk, hz9]))⟩ (by omega)
        · exact absurd hc46 (by decide)

set_option maxHeartbeats 4000000 in
set_option maxRecDepth 100000 in
theorem kX1_isBlocked (l : Launch) (D : va_G) (q : Nat → Nat) (cA : ClassId) (S : MS) (hok : okM S) (k v : Nat) (hk9 : k < yn S) (h1 : 1 ≤ v) (h2 : v ≤ 10) (hg : g_cl (vML S)) : xr_M l yX1_isBlocked wsX1_isBlocked ({ frames := 2, cells := 0, slots := 0, locals := 42 }) D vwCl [(cA, .int)] [.ref (q 0), .int (nI k), .int (nI v)] (wM q cA S) (k_b ((yse S k &&& k_both (nI v)) != 0 && q_isb (vML S) (yse S k) (yse S k &&& k_both (nI v)))) := by
  refine Met.ofW (cc := cX1_isBlocked) (maxL := 7) (ret := (some .boolean)) (by decide) rfl ?_
  intro p e s m args below meth c s₁ B hml hv
  obtain ⟨rfl, hP, hK⟩ := hv
  obtain ⟨hn40, hh200, hg100⟩ := id hok
  have hx := B.exec
  have hb := B.bytes
  have hr := B.returns
  have hts := atoms_spec (ws := wsX1_isBlocked) B.pre
  have hown : s.vm.findClass RX1 = some m.cls := findClass_of_methodNamed B.named
  have hlocks := B.notSynchronized
  have hinX1 : ∀ w ∈ u_ws RX1 TX1 12, w ∈ wsX1_isBlocked := fun w h => List.mem_cons_of_mem _ (bw_X1 w h)
  have hf7 := hts _ (List.mem_cons_of_mem _ bw_260)
  have hf33 := hts _ (List.mem_cons_of_mem _ bw_259)
  have hl := lv_entry ([.ref (q 0), .int (nI k), .int (nI v)]) (n := 7) (Nat.le_of_ble_eq_true rfl)
  rw [lg_entry_eq]
  generalize (lg_sl ([.ref (q 0), .int (nI k), .int (nI v)]) ++ List.replicate (7 - (lg_sl ([.ref (q 0), .int (nI k), .int (nI v)])).length) Slot.unset).toArray = ls at hl ⊢
  have hl : lv_has ls 7 [(0, .ref (q 0)), (1, .int (nI k)), (2, .int (nI v))] := hl
  refine lv_iload_n hx hb dX1_isBlocked_0 rfl (lv_at hl 2 rfl) ?_
  refine xc_s (As := [.int (nI v)]) (rest := []) ⟨hx, hb, hml, hown, hts⟩ (kX1_bit l (nI v)) (va_cwS 1 hts (gd_S bw_293 bw_294 bw_2 bw_295) rfl rfl rfl (by decide +kernel) ⟨Nat.le_of_ble_eq_true rfl, Nat.le_of_ble_eq_true rfl⟩) rfl hl.1 rfl (Nat.le_of_ble_eq_true rfl) dX1_isBlocked_1 ⟨Nat.zero_le _, Nat.zero_le _⟩ ?_
  refine lv_iload_n hx hb dX1_isBlocked_4 rfl (lv_at hl 2 rfl) ?_
  refine lv_ineg hx hb dX1_isBlocked_5 ?_
  refine xc_s (As := [.int (-(nI v))]) (rest := [.int (m_bit (nI v))]) ⟨hx, hb, hml, hown, hts⟩ (kX1_bit l (-(nI v))) (va_cwS 1 hts (gd_S bw_293 bw_294 bw_2 bw_295) rfl rfl rfl (by decide +kernel) ⟨Nat.le_of_ble_eq_true rfl, Nat.le_of_ble_eq_true rfl⟩) rfl hl.1 rfl (Nat.le_of_ble_eq_true rfl) dX1_isBlocked_6 ⟨Nat.zero_le _, Nat.zero_le _⟩ ?_
  refine lv_ior hx hb dX1_isBlocked_9 ?_
  refine lv_topi (fun z1 ez1 => ?_)
  obtain rfl : z1 = k_both (nI v) := ez1.trans (mb_both v (by omega) h1)
  refine lv_istore_n (lv' := [(3, .int (k_both (nI v))), (0, .ref (q 0)), (1, .int (nI k)), (2, .int (nI v))]) hx hb dX1_isBlocked_10 rfl hl (by decide) rfl (fun ls hl => ?_)
  refine lv_aload_n hx hb dX1_isBlocked_11 rfl (lv_at hl 1 rfl) ?_
  refine va_get (v := .ref (q 1)) hx hb hts hinX1 hown hK hP 0 rfl rfl 2 (by decide) hf7 (fun _ h9 => h9) rfl dX1_isBlocked_12 ?_
  refine lv_iload_n hx hb dX1_isBlocked_15 rfl (lv_at hl 2 rfl) ?_
  refine xa_ld hx hb hK hP 1 0 rfl rfl k (by omega) (by first | decide | assumption) dX1_isBlocked_16 ?_
  refine lv_iload_n hx hb dX1_isBlocked_17 rfl (lv_at hl 0 rfl) ?_
  refine lv_iand hx hb dX1_isBlocked_18 ?_
  refine lv_istore (lv' := [(4, .int (((yse S) k) &&& (k_both (nI v)))), (3, .int (k_both (nI v))), (0, .ref (q 0)), (1, .int (nI k)), (2, .int (nI v))]) hx hb dX1_isBlocked_19 hl (by decide) rfl (fun ls hl => ?_)
  refine lv_iload hx hb dX1_isBlocked_21 (lv_at hl 0 rfl) ?_
  refine lv_if_ne (tgt := 28) hx hb dX1_isBlocked_23 (by decide) (fun hc23 => ?_) (fun hc23 => ?_)
  · have hsk : q_set (vML S) k = yse S k := q_set_of hk9
    have gk := g_cl_at hg (k := k) (by rw [vML_len]; exact hk9)
    rw [hsk] at gk
    refine lv_iconst (v := 0) hx hb dX1_isBlocked_28 (by decide) ?_
    refine lv_istore (lv' := [(5, .int 0), (4, .int (((yse S) k) &&& (k_both (nI v)))), (3, .int (k_both (nI v))), (0, .ref (q 0)), (1, .int (nI k)), (2, .int (nI v))]) hx hb dX1_isBlocked_29 hl (by decide) rfl (fun ls hl => ?_)
    refine wlr (σ := Nat) (fun (j : Nat) ls => lv_has ls 7 [(5, .int (nI j)), (4, .int (yse S k &&& k_both (nI v))), (3, .int (k_both (nI v))), (0, .ref (q 0)), (1, .int (nI k)), (2, .int (nI v))] ∧ j ≤ yn S ∧ q_up (fun d => (q_set (vML S) d &&& k_con (yse S k &&& k_both (nI v))) != 0 && !k_taut (k_res (yse S k) (q_set (vML S) d) ((yse S k &&& k_both (nI v)) ||| k_con (yse S k &&& k_both (nI v))))) (yn S - 0) 0 = q_up (fun d => (q_set (vML S) d &&& k_con (yse S k &&& k_both (nI v))) != 0 && !k_taut (k_res (yse S k) (q_set (vML S) d) ((yse S k &&& k_both (nI v)) ||| k_con (yse S k &&& k_both (nI v))))) (yn S - j) j) (fun (j : Nat) => yn S - j) 0 ⟨lv_sub hl [0, 1, 2, 3, 4, 5] rfl, (by omega), rfl⟩ ?_
    intro j ls hI ih31
    obtain ⟨hl, hk, hq⟩ := hI
    have hl : lv_has ls 7 [(5, .int (nI j)), (4, .int (yse S k &&& k_both (nI v))), (3, .int (k_both (nI v))), (0, .ref (q 0)), (1, .int (nI k)), (2, .int (nI v))] := hl
    refine lv_iload hx hb dX1_isBlocked_31 (lv_at hl 0 rfl) ?_
    refine lv_aload_n hx hb dX1_isBlocked_33 rfl (lv_at hl 3 rfl) ?_
    refine va_get (v := .int (nI (yn S))) hx hb hts hinX1 hown hK hP 0 rfl rfl 1 (by decide) hf33 (fun _ h9 => h9) rfl dX1_isBlocked_34 ?_
    refine lv_icmp_ge (tgt := 100) hx hb dX1_isBlocked_37 (by decide) (fun hc37 => ?_) (fun hc37 => ?_)
    · have hge : yn S ≤ j := (nI_leI (by omega) (by omega)).mp hc37
      refine lv_iconst (v := 1) hx hb dX1_isBlocked_100 (by decide) ?_
      have hv9 : k_b ((yse S k &&& k_both (nI v)) != 0 && q_isb (vML S) (yse S k) (yse S k &&& k_both (nI v))) = 1 := by rw [show q_isb (vML S) (yse S k) (yse S k &&& k_both (nI v)) = (q_up (fun d => (q_set (vML S) d &&& k_con (yse S k &&& k_both (nI v))) != 0 && !k_taut (k_res (yse S k) (q_set (vML S) d) ((yse S k &&& k_both (nI v)) ||| k_con (yse S k &&& k_both (nI v))))) (yn S - 0) 0).isNone from by unfold q_isb; rw [cl_of_len]; rfl, hq, q_up_end hge]; simp [k_b, hc23]
      exact W.zret (v := 1) hx hb hr (by rfl) (fun t ht hW => ⟨by rw [hv9], ht⟩) (fun _ h => nomatch h) dX1_isBlocked_101
    · have hlt : j < yn S := Nat.lt_of_not_le (fun z => hc37 ((nI_leI (by omega) (by omega)).mpr z))
      have hs : q_set (vML S) j = yse S j := q_set_of hlt
      have gj := g_cl_at hg (k := j) (by rw [vML_len]; exact hlt)
      rw [hs] at gj
      refine lv_aload_n hx hb dX1_isBlocked_40 rfl (lv_at hl 3 rfl) ?_
      refine va_get (v := .ref (q 1)) hx hb hts hinX1 hown hK hP 0 rfl rfl 2 (by decide) hf7 (fun _ h9 => h9) rfl dX1_isBlocked_41 ?_
      refine lv_iload hx hb dX1_isBlocked_44 (lv_at hl 0 rfl) ?_
      refine xa_ld hx hb hK hP 1 0 rfl rfl j (by omega) (by first | decide | assumption) dX1_isBlocked_46 ?_
      refine lv_iload_n hx hb dX1_isBlocked_47 rfl (lv_at hl 2 rfl) ?_
      refine lv_iand hx hb dX1_isBlocked_48 ?_
      refine lv_iload hx hb dX1_isBlocked_49 (lv_at hl 1 rfl) ?_
      refine lv_iconst (v := (-1)) hx hb dX1_isBlocked_51 (by decide) ?_
      refine xi_not hx hb dX1_isBlocked_52 ?_
      refine lv_iand hx hb dX1_isBlocked_53 ?_
      refine lv_if_eq (tgt := 61) hx hb dX1_isBlocked_54 (by decide) (fun hc54 => ?_) (fun hc54 => ?_)
      · rw [mine_con gk.2 (by omega) hc23] at hc54
        refine lv_iconst (v := 0) hx hb dX1_isBlocked_61 (by decide) ?_
        refine lv_istore (lv' := [(6, .int 0), (5, .int (nI j)), (4, .int (yse S k &&& k_both (nI v))), (3, .int (k_both (nI v))), (0, .ref (q 0)), (1, .int (nI k)), (2, .int (nI v))]) hx hb dX1_isBlocked_62 hl (by decide) rfl (fun ls hl => ?_)
        refine lv_iload hx hb dX1_isBlocked_64 (lv_at hl 0 rfl) ?_
        refine lv_if_eq (tgt := 94) hx hb dX1_isBlocked_66 (by decide) (fun hc66 => ?_) (fun hc66 => ?_)
        · refine lv_iinc (k := 1) (v := nI (j + 1)) (lv' := [(5, .int (nI (j + 1))), (6, .int 0), (4, .int (yse S k &&& k_both (nI v))), (3, .int (k_both (nI v))), (0, .ref (q 0)), (1, .int (nI k)), (2, .int (nI v))]) hx hb dX1_isBlocked_94 hl rfl (ii_1 _) (by decide) rfl (fun ls hl => ?_)
          refine lv_goto (tgt := 31) hx hb dX1_isBlocked_97 (by decide) ?_
          exact ih31 (j + 1) _ ⟨lv_sub hl [0, 2, 3, 4, 5, 6] rfl, (by omega), hq.trans (q_up_f hlt (by simp [hc54, hs]))⟩ (by omega)
        · exact absurd hc66 (by decide)
      · rw [mine_con gk.2 (by omega) hc23] at hc54
        refine lv_iconst (v := 1) hx hb dX1_isBlocked_57 (by decide) ?_
        refine lv_goto (tgt := 62) hx hb dX1_isBlocked_58 (by decide) ?_
        refine lv_istore (lv' := [(6, .int 1), (5, .int (nI j)), (4, .int (yse S k &&& k_both (nI v))), (3, .int (k_both (nI v))), (0, .ref (q 0)), (1, .int (nI k)), (2, .int (nI v))]) hx hb dX1_isBlocked_62 hl (by decide) rfl (fun ls hl => ?_)
        refine lv_iload hx hb dX1_isBlocked_64 (lv_at hl 0 rfl) ?_
        refine lv_if_eq (tgt := 94) hx hb dX1_isBlocked_66 (by decide) (fun hc66 => ?_) (fun hc66 => ?_)
        · exact absurd hc66 (by decide)
        · refine lv_aload_n hx hb dX1_isBlocked_69 rfl (lv_at hl 4 rfl) ?_
          refine va_get (v := .ref (q 1)) hx hb hts hinX1 hown hK hP 0 rfl rfl 2 (by decide) hf7 (fun _ h9 => h9) rfl dX1_isBlocked_70 ?_
          refine lv_iload_n hx hb dX1_isBlocked_73 rfl (lv_at hl 5 rfl) ?_
          refine xa_ld hx hb hK hP 1 0 rfl rfl k (by omega) (by first | decide | assumption) dX1_isBlocked_74 ?_
          refine lv_aload_n hx hb dX1_isBlocked_75 rfl (lv_at hl 4 rfl) ?_
          refine va_get (v := .ref (q 1)) hx hb hts hinX1 hown hK hP 0 rfl rfl 2 (by decide) hf7 (fun _ h9 => h9) rfl dX1_isBlocked_76 ?_
          refine lv_iload hx hb dX1_isBlocked_79 (lv_at hl 1 rfl) ?_
          refine xa_ld hx hb hK hP 1 0 rfl rfl j (by omega) (by first | decide | assumption) dX1_isBlocked_81 ?_
          refine lv_iload_n hx hb dX1_isBlocked_82 rfl (lv_at hl 6 rfl) ?_
          refine xc_s (As := [.int ((yse S) k), .int ((yse S) j), .int (nI v)]) (rest := []) ⟨hx, hb, hml, hown, hts⟩ (kX1_resolvent l ((yse S) k) ((yse S) j) (nI v)) (va_cwS 3 hts (gd_S bw_346 bw_347 bw_2 bw_348) rfl rfl rfl (by decide +kernel) ⟨Nat.le_of_ble_eq_true rfl, Nat.le_of_ble_eq_true rfl⟩) rfl hl.1 rfl (Nat.le_of_ble_eq_true rfl) dX1_isBlocked_83 ⟨Nat.zero_le _, Nat.zero_le _⟩ ?_
          refine xc_s (As := [.int (m_res ((yse S) k) ((yse S) j) (nI v))]) (rest := []) ⟨hx, hb, hml, hown, hts⟩ (kX1_isTautology l (m_res ((yse S) k) ((yse S) j) (nI v))) (va_cwS 1 hts (gd_S bw_303 bw_304 bw_2 bw_305) rfl rfl rfl (by decide +kernel) ⟨Nat.le_of_ble_eq_true rfl, Nat.le_of_ble_eq_true rfl⟩) rfl hl.1 rfl (Nat.le_of_ble_eq_true rfl) dX1_isBlocked_86 ⟨Nat.zero_le _, Nat.zero_le _⟩ ?_
          refine lv_if_ne (tgt := 94) hx hb dX1_isBlocked_89 (by decide) (fun hc89 => ?_) (fun hc89 => ?_)
          · rw [m_res_eq h1 h2, m_taut_eq (k_ok_res gk.1 gj.1), ← mine_both gk.2 (by omega) hc23] at hc89
            have hc89 := kb_n0.mp hc89
            refine lv_iinc (k := 1) (v := nI (j + 1)) (lv' := [(5, .int (nI (j + 1))), (6, .int 1), (4, .int (yse S k &&& k_both (nI v))), (3, .int (k_both (nI v))), (0, .ref (q 0)), (1, .int (nI k)), (2, .int (nI v))]) hx hb dX1_isBlocked_94 hl rfl (ii_1 _) (by decide) rfl (fun ls hl => ?_)
            refine lv_goto (tgt := 31) hx hb dX1_isBlocked_97 (by decide) ?_
            exact ih31 (j + 1) _ ⟨lv_sub hl [0, 2, 3, 4, 5, 6] rfl, (by omega), hq.trans (q_up_f hlt (by simp [hc54, hc89, hs]))⟩ (by omega)
          · rw [m_res_eq h1 h2, m_taut_eq (k_ok_res gk.1 gj.1), ← mine_both gk.2 (by omega) hc23] at hc89
            have hc89 := kb_0.mp hc89
            refine lv_iconst (v := 0) hx hb dX1_isBlocked_92 (by decide) ?_
            have hv9 : k_b ((yse S k &&& k_both (nI v)) != 0 && q_isb (vML S) (yse S k) (yse S k &&& k_both (nI v))) = 0 := by rw [show q_isb (vML S) (yse S k) (yse S k &&& k_both (nI v)) = (q_up (fun d => (q_set (vML S) d &&& k_con (yse S k &&& k_both (nI v))) != 0 && !k_taut (k_res (yse S k) (q_set (vML S) d) ((yse S k &&& k_both (nI v)) ||| k_con (yse S k &&& k_both (nI v))))) (yn S - 0) 0).isNone from by unfold q_isb; rw [cl_of_len]; rfl, hq, q_up_t hlt (by simp [hs, hc54, hc89])]; simp [k_b]
            exact W.zret (v := 0) hx hb hr (by rfl) (fun t ht hW => ⟨by rw [hv9], ht⟩) (fun _ h => nomatch h) dX1_isBlocked_93
  · refine lv_iconst (v := 0) hx hb dX1_isBlocked_26 (by decide) ?_
    have hv9 : k_b ((yse S k &&& k_both (nI v)) != 0 && q_isb (vML S) (yse S k) (yse S k &&& k_both (nI v))) = 0 := by simp [k_b, hc23]
    exact W.zret (v := 0) hx hb hr (by rfl) (fun t ht hW => ⟨by rw [hv9], ht⟩) (fun _ h => nomatch h) dX1_isBlocked_27
