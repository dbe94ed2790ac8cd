/-! The reference: public methods. -/
set_option maxHeartbeats 4000000 in
set_option maxRecDepth 100000 in
theorem kX1_clause_ok (l : Launch) (D : va_G) (q : Nat → Nat) (cA : ClassId) (S : MS) (hok : okM S) (k : Nat) (hk9 : k < yn S) (sz : Nat) : xw_Mi l yX1_clause wsX1_clause ({ frames := 0, cells := 0, slots := 0, locals := 0 }) D vwCl [(cA, .int)] [.ref (q 0), .int (nI k)] (wM q cA S) sz (fun (r : Int32) (u : MS) => r = yse S k ∧ u = (yk (yd S) (yn S) (ym S) (yh S) (yg S) (yt S) 0 (yse S) (ynu S) (yes S) (yel S) (ygi S))) (wM q cA) := by
  refine Met.ofW (cc := cX1_clause) (maxL := 2) (ret := (some .int)) (by decide) rfl ?_
  intro p e s m args below meth c s₁ B hml hv
  obtain ⟨rfl, hsz, hP, hK, hD0⟩ := hv
  subst hsz
  have hD := hD0.self (sz := s.heap.size)
  have hA : ∀ z, s.heap.size ≤ z → va_A (wM q cA S) s.heap.size z := fun z h => Or.inr h
  have hS : va_S (va_A (wM q cA S) s.heap.size) s.heap s.heap [] := va_S.rf
  obtain ⟨hn40, hh200, hg100⟩ := id hok
  have hx := B.exec
  have hb := B.bytes
  have hr := B.returns
  have hts := atoms_spec (ws := wsX1_clause) B.pre
  have hown : s.vm.findClass RX1 = some m.cls := findClass_of_methodNamed B.named
  have hlocks := B.notSynchronized
  have hinX1 : ∀ w ∈ u_ws RX1 TX1 12, w ∈ wsX1_clause := fun w h => List.mem_cons_of_mem _ (bw_X1 w h)
  have hf7 := hts _ (List.mem_cons_of_mem _ bw_260)
  have hf25 := hts _ (List.mem_cons_of_mem _ bw_269)
  have hf33 := hts _ (List.mem_cons_of_mem _ bw_259)
  have hl := lv_entry ([.ref (q 0), .int (nI k)]) (n := 2) (Nat.le_of_ble_eq_true rfl)
  rw [lg_entry_eq]
  generalize (lg_sl ([.ref (q 0), .int (nI k)]) ++ List.replicate (2 - (lg_sl ([.ref (q 0), .int (nI k)])).length) Slot.unset).toArray = ls at hl ⊢
  have hl : lv_has ls 2 [(0, .ref (q 0)), (1, .int (nI k))] := hl
  refine lv_aload_n hx hb dX1_clause_0 rfl (lv_at hl 0 rfl) ?_
  refine lv_iload_n hx hb dX1_clause_1 rfl (lv_at hl 1 rfl) ?_
  refine lv_if_lt (tgt := 13) hx hb dX1_clause_2 (by decide) (fun hc2 => ?_) (fun hc2 => ?_)
  · exact absurd hc2 (nI_pos (by omega))
  · refine lv_iload_n hx hb dX1_clause_5 rfl (lv_at hl 1 rfl) ?_
    refine lv_aload_n hx hb dX1_clause_6 rfl (lv_at hl 0 rfl) ?_
    refine va_get (v := .int (nI (yn S))) hx hb hts hinX1 hown hK hP 0 rfl rfl 1 (by decide) hf33 (fun _ h9 => h9) rfl dX1_clause_7 ?_
    refine lv_icmp_lt (tgt := 17) hx hb dX1_clause_10 (by decide) (fun hc10 => ?_) (fun hc10 => ?_)
    · refine lv_iconst (v := 0) hx hb dX1_clause_17 (by decide) ?_
      refine va_put (v := .int 0) (ty := .int) hx hb hts hinX1 tyX1 tyX1_ok nmX1 hown hK hP hD hS 0 rfl rfl 11 (by decide) hf25 (fun _ h9 => h9) rfl (by decide +kernel) rfl rfl (Nat.le_of_ble_eq_true rfl) dX1_clause_18 (fun H locs hP hD hS => ?_)
      have hP : va_P D vwCl (wM q cA (yk (yd S) (yn S) (ym S) (yh S) (yg S) (yt S) 0 (yse S) (ynu S) (yes S) (yel S) (ygi S))) H := hP
      have hD : va_D _ (wM q cA (yk (yd S) (yn S) (ym S) (yh S) (yg S) (yt S) 0 (yse S) (ynu S) (yes S) (yel S) (ygi S))) := hD
      refine lv_aload_n hx hb dX1_clause_21 rfl (lv_at hl 0 rfl) ?_
      refine va_get (v := .int 0) hx hb hts hinX1 hown hK hP 0 rfl rfl 11 (by decide) hf25 (fun _ h9 => h9) rfl dX1_clause_22 ?_
      refine lv_if_ne (tgt := 37) hx hb dX1_clause_25 (by decide) (fun hc25 => ?_) (fun hc25 => ?_)
      · exact absurd hc25 (by decide)
      · refine lv_aload_n hx hb dX1_clause_28 rfl (lv_at hl 0 rfl) ?_
        refine va_get (v := .ref (q 1)) hx hb hts hinX1 hown hK hP 0 rfl rfl 2 (by decide) hf7 (fun _ h9 => h9) rfl dX1_clause_29 ?_
        refine lv_iload_n hx hb dX1_clause_32 rfl (lv_at hl 1 rfl) ?_
        refine xa_ld hx hb hK hP 1 0 rfl rfl k (by omega) (by first | decide | assumption) dX1_clause_33 ?_
        refine lv_goto (tgt := 38) hx hb dX1_clause_34 (by decide) ?_
        have hpo : (yse S) k = yse S k ∧ (yk (yd S) (yn S) (ym S) (yh S) (yg S) (yt S) 0 (yse S) (ynu S) (yes S) (yel S) (ygi S)) = (yk (yd S) (yn S) (ym S) (yh S) (yg S) (yt S) 0 (yse S) (ynu S) (yes S) (yel S) (ygi S)) := ⟨rfl, rfl⟩
        exact W.iret (v := ((yse S) k)) hx hb hr (fun t ht hW => ⟨⟨((yse S) k), (yk (yd S) (yn S) (ym S) (yh S) (yg S) (yt S) 0 (yse S) (ynu S) (yes S) (yel S) (ygi S)), rfl, hpo, by rw [ht]; exact hP, va_K.moved hW.alike hK, hD⟩, hS.F ht⟩) hS.2.2 dX1_clause_38
    · exact absurd (nI_lt hk9 (by omega)) hc10

set_option maxHeartbeats 4000000 in
set_option maxRecDepth 100000 in
theorem kX1_clause_no (l : Launch) (D : va_G) (q : Nat → Nat) (cA : ClassId) (S : MS) (hok : okM S) (x : Int32) (hx9 : x < 0 ∨ nI (yn S) ≤ x) (sz : Nat) : xw_Mi l yX1_clause wsX1_clause ({ frames := 0, cells := 0, slots := 0, locals := 0 }) D vwCl [(cA, .int)] [.ref (q 0), .int x] (wM q cA S) sz (fun (r : Int32) (u : MS) => (r : Int32) = 0 ∧ u = (yk (yd S) (yn S) (ym S) (yh S) (yg S) (yt S) 1 (yse S) (ynu S) (yes S) (yel S) (ygi S))) (wM q cA) := by
  refine Met.ofW (cc := cX1_clause) (maxL := 2) (ret := (some .int)) (by decide) rfl ?_
  intro p e s m args below meth c s₁ B hml hv
  obtain ⟨rfl, hsz, hP, hK, hD0⟩ := hv
  subst hsz
  have hD := hD0.self (sz := s.heap.size)
  have hA : ∀ z, s.heap.size ≤ z → va_A (wM q cA S) s.heap.size z := fun z h => Or.inr h
  have hS : va_S (va_A (wM q cA S) s.heap.size) s.heap s.heap [] := va_S.rf
  obtain ⟨hn40, hh200, hg100⟩ := id hok
  have hx := B.exec
  have hb := B.bytes
  have hr := B.returns
  have hts := atoms_spec (ws := wsX1_clause) B.pre
  have hown : s.vm.findClass RX1 = some m.cls := findClass_of_methodNamed B.named
  have hlocks := B.notSynchronized
  have hinX1 : ∀ w ∈ u_ws RX1 TX1 12, w ∈ wsX1_clause := fun w h => List.mem_cons_of_mem _ (bw_X1 w h)
  have hf25 := hts _ (List.mem_cons_of_mem _ bw_269)
  have hf33 := hts _ (List.mem_cons_of_mem _ bw_259)
  have hl := lv_entry ([.ref (q 0), .int x]) (n := 2) (Nat.le_of_ble_eq_true rfl)
  rw [lg_entry_eq]
  generalize (lg_sl ([.ref (q 0), .int x]) ++ List.replicate (2 - (lg_sl ([.ref (q 0), .int x])).length) Slot.unset).toArray = ls at hl ⊢
  have hl : lv_has ls 2 [(0, .ref (q 0)), (1, .int x)] := hl
  refine lv_aload_n hx hb dX1_clause_0 rfl (lv_at hl 0 rfl) ?_
  refine lv_iload_n hx hb dX1_clause_1 rfl (lv_at hl 1 rfl) ?_
  refine lv_if_lt (tgt := 13) hx hb dX1_clause_2 (by decide) (fun hc2 => ?_) (fun hc2 => ?_)
  · refine lv_iconst (v := 1) hx hb dX1_clause_13 (by decide) ?_
    refine lv_goto (tgt := 18) hx hb dX1_clause_14 (by decide) ?_
    refine va_put (v := .int 1) (ty := .int) hx hb hts hinX1 tyX1 tyX1_ok nmX1 hown hK hP hD hS 0 rfl rfl 11 (by decide) hf25 (fun _ h9 => h9) rfl (by decide +kernel) rfl rfl (Nat.le_of_ble_eq_true rfl) dX1_clause_18 (fun H locs hP hD hS => ?_)
    have hP : va_P D vwCl (wM q cA (yk (yd S) (yn S) (ym S) (yh S) (yg S) (yt S) 1 (yse S) (ynu S) (yes S) (yel S) (ygi S))) H := hP
    have hD : va_D _ (wM q cA (yk (yd S) (yn S) (ym S) (yh S) (yg S) (yt S) 1 (yse S) (ynu S) (yes S) (yel S) (ygi S))) := hD
    refine lv_aload_n hx hb dX1_clause_21 rfl (lv_at hl 0 rfl) ?_
    refine va_get (v := .int 1) hx hb hts hinX1 hown hK hP 0 rfl rfl 11 (by decide) hf25 (fun _ h9 => h9) rfl dX1_clause_22 ?_
    refine lv_if_ne (tgt := 37) hx hb dX1_clause_25 (by decide) (fun hc25 => ?_) (fun hc25 => ?_)
    · refine lv_iconst (v := 0) hx hb dX1_clause_37 (by decide) ?_
      have hpo : (0 : Int32) = 0 ∧ (yk (yd S) (yn S) (ym S) (yh S) (yg S) (yt S) 1 (yse S) (ynu S) (yes S) (yel S) (ygi S)) = (yk (yd S) (yn S) (ym S) (yh S) (yg S) (yt S) 1 (yse S) (ynu S) (yes S) (yel S) (ygi S)) := ⟨rfl, rfl⟩
      exact W.iret (v := 0) hx hb hr (fun t ht hW => ⟨⟨0, (yk (yd S) (yn S) (ym S) (yh S) (yg S) (yt S) 1 (yse S) (ynu S) (yes S) (yel S) (ygi S)), rfl, hpo, by rw [ht]; exact hP, va_K.moved hW.alike hK, hD⟩, hS.F ht⟩) hS.2.2 dX1_clause_38
    · exact absurd hc25 (by decide)
  · refine lv_iload_n hx hb dX1_clause_5 rfl (lv_at hl 1 rfl) ?_
    refine lv_aload_n hx hb dX1_clause_6 rfl (lv_at hl 0 rfl) ?_
    refine va_get (v := .int (nI (yn S))) hx hb hts hinX1 hown hK hP 0 rfl rfl 1 (by decide) hf33 (fun _ h9 => h9) rfl dX1_clause_7 ?_
    refine lv_icmp_lt (tgt := 17) hx hb dX1_clause_10 (by decide) (fun hc10 => ?_) (fun hc10 => ?_)
    · exact hx9.elim (fun z => absurd z hc2) (fun z => absurd hc10 (Int32.not_lt.mpr z))
    · refine lv_iconst (v := 1) hx hb dX1_clause_13 (by decide) ?_
      refine lv_goto (tgt := 18) hx hb dX1_clause_14 (by decide) ?_
      refine va_put (v := .int 1) (ty := .int) hx hb hts hinX1 tyX1 tyX1_ok nmX1 hown hK hP hD hS 0 rfl rfl 11 (by decide) hf25 (fun _ h9 => h9) rfl (by decide +kernel) rfl rfl (Nat.le_of_ble_eq_true rfl) dX1_clause_18 (fun H locs hP hD hS => ?_)
      have hP : va_P D vwCl (wM q cA (yk (yd S) (yn S) (ym S) (yh S) (yg S) (yt S) 1 (yse S) (ynu S) (yes S) (yel S) (ygi S))) H := hP
      have hD : va_D _ (wM q cA (yk (yd S) (yn S) (ym S) (yh S) (yg S) (yt S) 1 (yse S) (ynu S) (yes S) (yel S) (ygi S))) := hD
      refine lv_aload_n hx hb dX1_clause_21 rfl (lv_at hl 0 rfl) ?_
      refine va_get (v := .int 1) hx hb hts hinX1 hown hK hP 0 rfl rfl 11 (by decide) hf25 (fun _ h9 => h9) rfl dX1_clause_22 ?_
      refine lv_if_ne (tgt := 37) hx hb dX1_clause_25 (by decide) (fun hc25 => ?_) (fun hc25 => ?_)
      · refine lv_iconst (v := 0) hx hb dX1_clause_37 (by decide) ?_
        have hpo : (0 : Int32) = 0 ∧ (yk (yd S) (yn S) (ym S) (yh S) (yg S) (yt S) 1 (yse S) (ynu S) (yes S) (yel S) (ygi S)) = (yk (yd S) (yn S) (ym S) (yh S) (yg S) (yt S) 1 (yse S) (ynu S) (yes S) (yel S) (ygi S)) := ⟨rfl, rfl⟩
        exact W.iret (v := 0) hx hb hr (fun t ht hW => ⟨⟨0, (yk (yd S) (yn S) (ym S) (yh S) (yg S) (yt S) 1 (yse S) (ynu S) (yes S) (yel S) (ygi S)), rfl, hpo, by rw [ht]; exact hP, va_K.moved hW.alike hK, hD⟩, hS.F ht⟩) hS.2.2 dX1_clause_38
      · exact absurd hc25 (by decide)

set_option maxHeartbeats 4000000 in
set_option maxRecDepth 100000 in
theorem kX1_number_ok (l : Launch) (D : va_G) (q : Nat → Nat) (cA : ClassId) (S : MS) (hok : okM S) (k : Nat) (hk9 : k < yn S) (sz : Nat) : xw_Mi l yX1_number wsX1_number ({ frames := 0, cells := 0, slots := 0, locals := 0 }) D vwCl [(cA, .int)] [.ref (q 0), .int (nI k)] (wM q cA S) sz (fun (r : Int32) (u : MS) => r = ynu S k ∧ u = (yk (yd S) (yn S) (ym S) (yh S) (yg S) (yt S) 0 (yse S) (ynu S) (yes S) (yel S) (ygi S))) (wM q cA) := by
  refine Met.ofW (cc := cX1_number) (maxL := 2) (ret := (some .int)) (by decide) rfl ?_
  intro p e s m args below meth c s₁ B hml hv
  obtain ⟨rfl, hsz, hP, hK, hD0⟩ := hv
  subst hsz
  have hD := hD0.self (sz := s.heap.size)
  have hA : ∀ z, s.heap.size ≤ z → va_A (wM q cA S) s.heap.size z := fun z h => Or.inr h
  have hS : va_S (va_A (wM q cA S) s.heap.size) s.heap s.heap [] := va_S.rf
  obtain ⟨hn40, hh200, hg100⟩ := id hok
  have hx := B.exec
  have hb := B.bytes
  have hr := B.returns
  have hts := atoms_spec (ws := wsX1_number) B.pre
  have hown : s.vm.findClass RX1 = some m.cls := findClass_of_methodNamed B.named
  have hlocks := B.notSynchronized
  have hinX1 : ∀ w ∈ u_ws RX1 TX1 12, w ∈ wsX1_number := fun w h => List.mem_cons_of_mem _ (bw_X1 w h)
  have hf13 := hts _ (List.mem_cons_of_mem _ bw_261)
  have hf25 := hts _ (List.mem_cons_of_mem _ bw_269)
  have hf33 := hts _ (List.mem_cons_of_mem _ bw_259)
  have hl := lv_entry ([.ref (q 0), .int (nI k)]) (n := 2) (Nat.le_of_ble_eq_true rfl)
  rw [lg_entry_eq]
  generalize (lg_sl ([.ref (q 0), .int (nI k)]) ++ List.replicate (2 - (lg_sl ([.ref (q 0), .int (nI k)])).length) Slot.unset).toArray = ls at hl ⊢
  have hl : lv_has ls 2 [(0, .ref (q 0)), (1, .int (nI k))] := hl
  refine lv_aload_n hx hb dX1_number_0 rfl (lv_at hl 0 rfl) ?_
  refine lv_iload_n hx hb dX1_number_1 rfl (lv_at hl 1 rfl) ?_
  refine lv_if_lt (tgt := 13) hx hb dX1_number_2 (by decide) (fun hc2 => ?_) (fun hc2 => ?_)
  · exact absurd hc2 (nI_pos (by omega))
  · refine lv_iload_n hx hb dX1_number_5 rfl (lv_at hl 1 rfl) ?_
    refine lv_aload_n hx hb dX1_number_6 rfl (lv_at hl 0 rfl) ?_
    refine va_get (v := .int (nI (yn S))) hx hb hts hinX1 hown hK hP 0 rfl rfl 1 (by decide) hf33 (fun _ h9 => h9) rfl dX1_number_7 ?_
    refine lv_icmp_lt (tgt := 17) hx hb dX1_number_10 (by decide) (fun hc10 => ?_) (fun hc10 => ?_)
    · refine lv_iconst (v := 0) hx hb dX1_number_17 (by decide) ?_
      refine va_put (v := .int 0) (ty := .int) hx hb hts hinX1 tyX1 tyX1_ok nmX1 hown hK hP hD hS 0 rfl rfl 11 (by decide) hf25 (fun _ h9 => h9) rfl (by decide +kernel) rfl rfl (Nat.le_of_ble_eq_true rfl) dX1_number_18 (fun H locs hP hD hS => ?_)
      have hP : va_P D vwCl (wM q cA (yk (yd S) (yn S) (ym S) (yh S) (yg S) (yt S) 0 (yse S) (ynu S) (yes S) (yel S) (ygi S))) H := hP
      have hD : va_D _ (wM q cA (yk (yd S) (yn S) (ym S) (yh S) (yg S) (yt S) 0 (yse S) (ynu S) (yes S) (yel S) (ygi S))) := hD
      refine lv_aload_n hx hb dX1_number_21 rfl (lv_at hl 0 rfl) ?_
      refine va_get (v := .int 0) hx hb hts hinX1 hown hK hP 0 rfl rfl 11 (by decide) hf25 (fun _ h9 => h9) rfl dX1_number_22 ?_
      refine lv_if_ne (tgt := 37) hx hb dX1_number_25 (by decide) (fun hc25 => ?_) (fun hc25 => ?_)
      · exact absurd hc25 (by decide)
      · refine lv_aload_n hx hb dX1_number_28 rfl (lv_at hl 0 rfl) ?_
        refine va_get (v := .ref (q 2)) hx hb hts hinX1 hown hK hP 0 rfl rfl 3 (by decide) hf13 (fun _ h9 => h9) rfl dX1_number_29 ?_
        refine lv_iload_n hx hb dX1_number_32 rfl (lv_at hl 1 rfl) ?_
        refine xa_ld hx hb hK hP 2 0 rfl rfl k (by omega) (by first | decide | assumption) dX1_number_33 ?_
        refine lv_goto (tgt := 38) hx hb dX1_number_34 (by decide) ?_
        have hpo : (ynu S) k = ynu S k ∧ (yk (yd S) (yn S) (ym S) (yh S) (yg S) (yt S) 0 (yse S) (ynu S) (yes S) (yel S) (ygi S)) = (yk (yd S) (yn S) (ym S) (yh S) (yg S) (yt S) 0 (yse S) (ynu S) (yes S) (yel S) (ygi S)) := ⟨rfl, rfl⟩
        exact W.iret (v := ((ynu S) k)) hx hb hr (fun t ht hW => ⟨⟨((ynu S) k), (yk (yd S) (yn S) (ym S) (yh S) (yg S) (yt S) 0 (yse S) (ynu S) (yes S) (yel S) (ygi S)), rfl, hpo, by rw [ht]; exact hP, va_K.moved hW.alike hK, hD⟩, hS.F ht⟩) hS.2.2 dX1_number_38
    · exact absurd (nI_lt hk9 (by omega)) hc10

set_option maxHeartbeats 4000000 in
set_option maxRecDepth 100000 in
theorem kX1_number_no (l : Launch) (D : va_G) (q : Nat → Nat) (cA : ClassId) (S : MS) (hok : okM S) (x : Int32) (hx9 : x < 0 ∨ nI (yn S) ≤ x) (sz : Nat) : xw_Mi l yX1_number wsX1_number ({ frames := 0, cells := 0, slots := 0, locals := 0 }) D vwCl [(cA, .int)] [.ref (q 0), .int x] (wM q cA S) sz (fun (r : Int32) (u : MS) => (r : Int32) = 0 ∧ u = (yk (yd S) (yn S) (ym S) (yh S) (yg S) (yt S) 1 (yse S) (ynu S) (yes S) (yel S) (ygi S))) (wM q cA) := by
  refine Met.ofW (cc := cX1_number) (maxL := 2) (ret := (some .int)) (by decide) rfl ?_
  intro p e s m args below meth c s₁ B hml hv
  obtain ⟨rfl, hsz, hP, hK, hD0⟩ := hv
  subst hsz
  have hD := hD0.self (sz := s.heap.size)
  have hA : ∀ z, s.heap.size ≤ z → va_A (wM q cA S) s.heap.size z := fun z h => Or.inr h
  have hS : va_S (va_A (wM q cA S) s.heap.size) s.heap s.heap [] := va_S.rf
  obtain ⟨hn40, hh200, hg100⟩ := id hok
  have hx := B.exec
  have hb := B.bytes
  have hr := B.returns
  have hts := atoms_spec (ws := wsX1_number) B.pre
  have hown : s.vm.findClass RX1 = some m.cls := findClass_of_methodNamed B.named
  have hlocks := B.notSynchronized
  have hinX1 : ∀ w ∈ u_ws RX1 TX1 12, w ∈ wsX1_number := fun w h => List.mem_cons_of_mem _ (bw_X1 w h)
  have hf25 := hts _ (List.mem_cons_of_mem _ bw_269)
  have hf33 := hts _ (List.mem_cons_of_mem _ bw_259)
  have hl := lv_entry ([.ref (q 0), .int x]) (n := 2) (Nat.le_of_ble_eq_true rfl)
  rw [lg_entry_eq]
  generalize (lg_sl ([.ref (q 0), .int x]) ++ List.replicate (2 - (lg_sl ([.ref (q 0), .int x])).length) Slot.unset).toArray = ls at hl ⊢
  have hl : lv_has ls 2 [(0, .ref (q 0)), (1, .int x)] := hl
  refine lv_aload_n hx hb dX1_number_0 rfl (lv_at hl 0 rfl) ?_
  refine lv_iload_n hx hb dX1_number_1 rfl (lv_at hl 1 rfl) ?_
  refine lv_if_lt (tgt := 13) hx hb dX1_number_2 (by decide) (fun hc2 => ?_) (fun hc2 => ?_)
  · refine lv_iconst (v := 1) hx hb dX1_number_13 (by decide) ?_
    refine lv_goto (tgt := 18) hx hb dX1_number_14 (by decide) ?_
    refine va_put (v := .int 1) (ty := .int) hx hb hts hinX1 tyX1 tyX1_ok nmX1 hown hK hP hD hS 0 rfl rfl 11 (by decide) hf25 (fun _ h9 => h9) rfl (by decide +kernel) rfl rfl (Nat.le_of_ble_eq_true rfl) dX1_number_18 (fun H locs hP hD hS => ?_)
    have hP : va_P D vwCl (wM q cA (yk (yd S) (yn S) (ym S) (yh S) (yg S) (yt S) 1 (yse S) (ynu S) (yes S) (yel S) (ygi S))) H := hP
    have hD : va_D _ (wM q cA (yk (yd S) (yn S) (ym S) (yh S) (yg S) (yt S) 1 (yse S) (ynu S) (yes S) (yel S) (ygi S))) := hD
    refine lv_aload_n hx hb dX1_number_21 rfl (lv_at hl 0 rfl) ?_
    refine va_get (v := .int 1) hx hb hts hinX1 hown hK hP 0 rfl rfl 11 (by decide) hf25 (fun _ h9 => h9) rfl dX1_number_22 ?_
    refine lv_if_ne (tgt := 37) hx hb dX1_number_25 (by decide) (fun hc25 => ?_) (fun hc25 => ?_)
    · refine lv_iconst (v := 0) hx hb dX1_number_37 (by decide) ?_
      have hpo : (0 : Int32) = 0 ∧ (yk (yd S) (yn S) (ym S) (yh S) (yg S) (yt S) 1 (yse S) (ynu S) (yes S) (yel S) (ygi S)) = (yk (yd S) (yn S) (ym S) (yh S) (yg S) (yt S) 1 (yse S) (ynu S) (yes S) (yel S) (ygi S)) := ⟨rfl, rfl⟩
      exact W.iret (v := 0) hx hb hr (fun t ht hW => ⟨⟨0, (yk (yd S) (yn S) (ym S) (yh S) (yg S) (yt S) 1 (yse S) (ynu S) (yes S) (yel S) (ygi S)), rfl, hpo, by rw [ht]; exact hP, va_K.moved hW.alike hK, hD⟩, hS.F ht⟩) hS.2.2 dX1_number_38
    · exact absurd hc25 (by decide)
  · refine lv_iload_n hx hb dX1_number_5 rfl (lv_at hl 1 rfl) ?_
    refine lv_aload_n hx hb dX1_number_6 rfl (lv_at hl 0 rfl) ?_
    refine va_get (v := .int (nI (yn S))) hx hb hts hinX1 hown hK hP 0 rfl rfl 1 (by decide) hf33 (fun _ h9 => h9) rfl dX1_number_7 ?_
    refine lv_icmp_lt (tgt := 17) hx hb dX1_number_10 (by decide) (fun hc10 => ?_) (fun hc10 => ?_)
    · exact hx9.elim (fun z => absurd z hc2) (fun z => absurd hc10 (Int32.not_lt.mpr z))
    · refine lv_iconst (v := 1) hx hb dX1_number_13 (by decide) ?_
      refine lv_goto (tgt := 18) hx hb dX1_number_14 (by decide) ?_
      refine va_put (v := .int 1) (ty := .int) hx hb hts hinX1 tyX1 tyX1_ok nmX1 hown hK hP hD hS 0 rfl rfl 11 (by decide) hf25 (fun _ h9 => h9) rfl (by decide +kernel) rfl rfl (Nat.le_of_ble_eq_true rfl) dX1_number_18 (fun H locs hP hD hS => ?_)
      have hP : va_P D vwCl (wM q cA (yk (yd S) (yn S) (ym S) (yh S) (yg S) (yt S) 1 (yse S) (ynu S) (yes S) (yel S) (ygi S))) H := hP
      have hD : va_D _ (wM q cA (yk (yd S) (yn S) (ym S) (yh S) (yg S) (yt S) 1 (yse S) (ynu S) (yes S) (yel S) (ygi S))) := hD
      refine lv_aload_n hx hb dX1_number_21 rfl (lv_at hl 0 rfl) ?_
      refine va_get (v := .int 1) hx hb hts hinX1 hown hK hP 0 rfl rfl 11 (by decide) hf25 (fun _ h9 => h9) rfl dX1_number_22 ?_
      refine lv_if_ne (tgt := 37) hx hb dX1_number_25 (by decide) (fun hc25 => ?_) (fun hc25 => ?_)
      · refine lv_iconst (v := 0) hx hb dX1_number_37 (by decide) ?_
        have hpo : (0 : Int32) = 0 ∧ (yk (yd S) (yn S) (ym S) (yh S) (yg S) (yt S) 1 (yse S) (ynu S) (yes S) (yel S) (ygi S)) = (yk (yd S) (yn S) (ym S) (yh S) (yg S) (yt S) 1 (yse S) (ynu S) (yes S) (yel S) (ygi S)) := ⟨rfl, rfl⟩
        exact W.iret (v := 0) hx hb hr (fun t ht hW => ⟨⟨0, (yk (yd S) (yn S) (ym S) (yh S) (yg S) (yt S) 1 (yse S) (ynu S) (yes S) (yel S) (ygi S)), rfl, hpo, by rw [ht]; exact hP, va_K.moved hW.alike hK, hD⟩, hS.F ht⟩) hS.2.2 dX1_number_38
      · exact absurd hc25 (by decide)

set_option maxHeartbeats 4000000 in
set_option maxRecDepth 100000 in
theorem kX1_entry_ok (l : Launch) (D : va_G) (q : Nat → Nat) (cA : ClassId) (S : MS) (hok : okM S) (k : Nat) (hk9 : k < yh S) (sz : Nat) : xw_Mi l yX1_entry wsX1_entry ({ frames := 0, cells := 0, slots := 0, locals := 0 }) D vwCl [(cA, .int)] [.ref (q 0), .int (nI k)] (wM q cA S) sz (fun (r : Int32) (u : MS) => r = yel S k ∧ u = (yk (yd S) (yn S) (ym S) (yh S) (yg S) (yt S) 0 (yse S) (ynu S) (yes S) (yel S) (ygi S))) (wM q cA) := by
  refine Met.ofW (cc := cX1_entry) (maxL := 2) (ret := (some .int)) (by decide) rfl ?_
  intro p e s m args below meth c s₁ B hml hv
  obtain ⟨rfl, hsz, hP, hK, hD0⟩ := hv
  subst hsz
  have hD := hD0.self (sz := s.heap.size)
  have hA : ∀ z, s.heap.size ≤ z → va_A (wM q cA S) s.heap.size z := fun z h => Or.inr h
  have hS : va_S (va_A (wM q cA S) s.heap.size) s.heap s.heap [] := va_S.rf
  obtain ⟨hn40, hh200, hg100⟩ := id hok
  have hx := B.exec
  have hb := B.bytes
  have hr := B.returns
  have hts := atoms_spec (ws := wsX1_entry) B.pre
  have hown : s.vm.findClass RX1 = some m.cls := findClass_of_methodNamed B.named
  have hlocks := B.notSynchronized
  have hinX1 : ∀ w ∈ u_ws RX1 TX1 12, w ∈ wsX1_entry := fun w h => List.mem_cons_of_mem _ (bw_X1 w h)
  have hf19 := hts _ (List.mem_cons_of_mem _ bw_265)
  have hf25 := hts _ (List.mem_cons_of_mem _ bw_269)
  have hf65 := hts _ (List.mem_cons_of_mem _ bw_263)
  have hl := lv_entry ([.ref (q 0), .int (nI k)]) (n := 2) (Nat.le_of_ble_eq_true rfl)
  rw [lg_entry_eq]
  generalize (lg_sl ([.ref (q 0), .int (nI k)]) ++ List.replicate (2 - (lg_sl ([.ref (q 0), .int (nI k)])).length) Slot.unset).toArray = ls at hl ⊢
  have hl : lv_has ls 2 [(0, .ref (q 0)), (1, .int (nI k))] := hl
  refine lv_aload_n hx hb dX1_entry_0 rfl (lv_at hl 0 rfl) ?_
  refine lv_iload_n hx hb dX1_entry_1 rfl (lv_at hl 1 rfl) ?_
  refine lv_if_lt (tgt := 13) hx hb dX1_entry_2 (by decide) (fun hc2 => ?_) (fun hc2 => ?_)
  · exact absurd hc2 (nI_pos (by omega))
  · refine lv_iload_n hx hb dX1_entry_5 rfl (lv_at hl 1 rfl) ?_
    refine lv_aload_n hx hb dX1_entry_6 rfl (lv_at hl 0 rfl) ?_
    refine va_get (v := .int (nI (yh S))) hx hb hts hinX1 hown hK hP 0 rfl rfl 5 (by decide) hf65 (fun _ h9 => h9) rfl dX1_entry_7 ?_
    refine lv_icmp_lt (tgt := 17) hx hb dX1_entry_10 (by decide) (fun hc10 => ?_) (fun hc10 => ?_)
    · refine lv_iconst (v := 0) hx hb dX1_entry_17 (by decide) ?_
      refine va_put (v := .int 0) (ty := .int) hx hb hts hinX1 tyX1 tyX1_ok nmX1 hown hK hP hD hS 0 rfl rfl 11 (by decide) hf25 (fun _ h9 => h9) rfl (by decide +kernel) rfl rfl (Nat.le_of_ble_eq_true rfl) dX1_entry_18 (fun H locs hP hD hS => ?_)
      have hP : va_P D vwCl (wM q cA (yk (yd S) (yn S) (ym S) (yh S) (yg S) (yt S) 0 (yse S) (ynu S) (yes S) (yel S) (ygi S))) H := hP
      have hD : va_D _ (wM q cA (yk (yd S) (yn S) (ym S) (yh S) (yg S) (yt S) 0 (yse S) (ynu S) (yes S) (yel S) (ygi S))) := hD
      refine lv_aload_n hx hb dX1_entry_21 rfl (lv_at hl 0 rfl) ?_
      refine va_get (v := .int 0) hx hb hts hinX1 hown hK hP 0 rfl rfl 11 (by decide) hf25 (fun _ h9 => h9) rfl dX1_entry_22 ?_
      refine lv_if_ne (tgt := 37) hx hb dX1_entry_25 (by decide) (fun hc25 => ?_) (fun hc25 => ?_)
      · exact absurd hc25 (by decide)
      · refine lv_aload_n hx hb dX1_entry_28 rfl (lv_at hl 0 rfl) ?_
        refine va_get (v := .ref (q 4)) hx hb hts hinX1 hown hK hP 0 rfl rfl 7 (by decide) hf19 (fun _ h9 => h9) rfl dX1_entry_29 ?_
        refine lv_iload_n hx hb dX1_entry_32 rfl (lv_at hl 1 rfl) ?_
        refine xa_ld hx hb hK hP 4 0 rfl rfl k (by omega) (by first | decide | assumption) dX1_entry_33 ?_
        refine lv_goto (tgt := 38) hx hb dX1_entry_34 (by decide) ?_
        have hpo : (yel S) k = yel S k ∧ (yk (yd S) (yn S) (ym S) (yh S) (yg S) (yt S) 0 (yse S) (ynu S) (yes S) (yel S) (ygi S)) = (yk (yd S) (yn S) (ym S) (yh S) (yg S) (yt S) 0 (yse S) (ynu S) (yes S) (yel S) (ygi S)) := ⟨rfl, rfl⟩
        exact W.iret (v := ((yel S) k)) hx hb hr (fun t ht hW => ⟨⟨((yel S) k), (yk (yd S) (yn S) (ym S) (yh S) (yg S) (yt S) 0 (yse S) (ynu S) (yes S) (yel S) (ygi S)), rfl, hpo, by rw [ht]; exact hP, va_K.moved hW.alike hK, hD⟩, hS.F ht⟩) hS.2.2 dX1_entry_38
    · exact absurd (nI_lt hk9 (by omega)) hc10

set_option maxHeartbeats 4000000 in
set_option maxRecDepth 100000 in
theorem kX1_entry_no (l : Launch) (D : va_G) (q : Nat → Nat) (cA : ClassId) (S : MS) (hok : okM S) (x : Int32) (hx9 : x < 0 ∨ nI (yh S) ≤ x) (sz : Nat) : xw_Mi l yX1_entry wsX1_entry ({ frames := 0, cells := 0, slots := 0, locals := 0 }) D vwCl [(cA, .int)] [.ref (q 0), .int x] (wM q cA S) sz (fun (r : Int32) (u : MS) => (r : Int32) = 0 ∧ u = (yk (yd S) (yn S) (ym S) (yh S) (yg S) (yt S) 1 (yse S) (ynu S) (yes S) (yel S) (ygi S))) (wM q cA) := by
  refine Met.ofW (cc := cX1_entry) (maxL := 2) (ret := (some .int)) (by decide) rfl ?_
  intro p e s m args below meth c s₁ B hml hv
  obtain ⟨rfl, hsz, hP, hK, hD0⟩ := hv
  subst hsz
  have hD := hD0.self (sz := s.heap.size)
  have hA : ∀ z, s.heap.size ≤ z → va_A (wM q cA S) s.heap.size z := fun z h => Or.inr h
  have hS : va_S (va_A (wM q cA S) s.heap.size) s.heap s.heap [] := va_S.rf
  obtain ⟨hn40, hh200, hg100⟩ := id hok
  have hx := B.exec
  have hb := B.bytes
  have hr := B.returns
  have hts := atoms_spec (ws := wsX1_entry) B.pre
  have hown : s.vm.findClass RX1 = some m.cls := findClass_of_methodNamed B.named
  have hlocks := B.notSynchronized
  have hinX1 : ∀ w ∈ u_ws RX1 TX1 12, w ∈ wsX1_entry := fun w h => List.mem_cons_of_mem _ (bw_X1 w h)
  have hf25 := hts _ (List.mem_cons_of_mem _ bw_269)
  have hf65 := hts _ (List.mem_cons_of_mem _ bw_263)
  have hl := lv_entry ([.ref (q 0), .int x]) (n := 2) (Nat.le_of_ble_eq_true rfl)
  rw [lg_entry_eq]
  generalize (lg_sl ([.ref (q 0), .int x]) ++ List.replicate (2 - (lg_sl ([.ref (q 0), .int x])).length) Slot.unset).toArray = ls at hl ⊢
  have hl : lv_has ls 2 [(0, .ref (q 0)), (1, .int x)] := hl
  refine lv_aload_n hx hb dX1_entry_0 rfl (lv_at hl 0 rfl) ?_
  refine lv_iload_n hx hb dX1_entry_1 rfl (lv_at hl 1 rfl) ?_
  refine lv_if_lt (tgt := 13) hx hb dX1_entry_2 (by decide) (fun hc2 => ?_) (fun hc2 => ?_)
  · refine lv_iconst (v := 1) hx hb dX1_entry_13 (by decide) ?_
    refine lv_goto (tgt := 18) hx hb dX1_entry_14 (by decide) ?_
    refine va_put (v := .int 1) (ty := .int) hx hb hts hinX1 tyX1 tyX1_ok nmX1 hown hK hP hD hS 0 rfl rfl 11 (by decide) hf25 (fun _ h9 => h9) rfl (by decide +kernel) rfl rfl (Nat.le_of_ble_eq_true rfl) dX1_entry_18 (fun H locs hP hD hS => ?_)
    have hP : va_P D vwCl (wM q cA (yk (yd S) (yn S) (ym S) (yh S) (yg S) (yt S) 1 (yse S) (ynu S) (yes S) (yel S) (ygi S))) H := hP
    have hD : va_D _ (wM q cA (yk (yd S) (yn S) (ym S) (yh S) (yg S) (yt S) 1 (yse S) (ynu S) (yes S) (yel S) (ygi S))) := hD
    refine lv_aload_n hx hb dX1_entry_21 rfl (lv_at hl 0 rfl) ?_
    refine va_get (v := .int 1) hx hb hts hinX1 hown hK hP 0 rfl rfl 11 (by decide) hf25 (fun _ h9 => h9) rfl dX1_entry_22 ?_
    refine lv_if_ne (tgt := 37) hx hb dX1_entry_25 (by decide) (fun hc25 => ?_) (fun hc25 => ?_)
    · refine lv_iconst (v := 0) hx hb dX1_entry_37 (by decide) ?_
      have hpo : (0 : Int32) = 0 ∧ (yk (yd S) (yn S) (ym S) (yh S) (yg S) (yt S) 1 (yse S) (ynu S) (yes S) (yel S) (ygi S)) = (yk (yd S) (yn S) (ym S) (yh S) (yg S) (yt S) 1 (yse S) (ynu S) (yes S) (yel S) (ygi S)) := ⟨rfl, rfl⟩
      exact W.iret (v := 0) hx hb hr (fun t ht hW => ⟨⟨0, (yk (yd S) (yn S) (ym S) (yh S) (yg S) (yt S) 1 (yse S) (ynu S) (yes S) (yel S) (ygi S)), rfl, hpo, by rw [ht]; exact hP, va_K.moved hW.alike hK, hD⟩, hS.F ht⟩) hS.2.2 dX1_entry_38
    · exact absurd hc25 (by decide)
  · refine lv_iload_n hx hb dX1_entry_5 rfl (lv_at hl 1 rfl) ?_
    refine lv_aload_n hx hb dX1_entry_6 rfl (lv_at hl 0 rfl) ?_
    refine va_get (v := .int (nI (yh S))) hx hb hts hinX1 hown hK hP 0 rfl rfl 5 (by decide) hf65 (fun _ h9 => h9) rfl dX1_entry_7 ?_
    refine lv_icmp_lt (tgt := 17) hx hb dX1_entry_10 (by decide) (fun hc10 => ?_) (fun hc10 => ?_)
    · exact hx9.elim (fun z => absurd z hc2) (fun z => absurd hc10 (Int32.not_lt.mpr z))
    · refine lv_iconst (v := 1) hx hb dX1_entry_13 (by decide) ?_
      refine lv_goto (tgt := 18) hx hb dX1_entry_14 (by decide) ?_
      refine va_put (v := .int 1) (ty := .int) hx hb hts hinX1 tyX1 tyX1_ok nmX1 hown hK hP hD hS 0 rfl rfl 11 (by decide) hf25 (fun _ h9 => h9) rfl (by decide +kernel) rfl rfl (Nat.le_of_ble_eq_true rfl) dX1_entry_18 (fun H locs hP hD hS => ?_)
      have hP : va_P D vwCl (wM q cA (yk (yd S) (yn S) (ym S) (yh S) (yg S) (yt S) 1 (yse S) (ynu S) (yes S) (yel S) (ygi S))) H := hP
      have hD : va_D _ (wM q cA (yk (yd S) (yn S) (ym S) (yh S) (yg S) (yt S) 1 (yse S) (ynu S) (yes S) (yel S) (ygi S))) := hD
      refine lv_aload_n hx hb dX1_entry_21 rfl (lv_at hl 0 rfl) ?_
      refine va_get (v := .int 1) hx hb hts hinX1 hown hK hP 0 rfl rfl 11 (by decide) hf25 (fun _ h9 => h9) rfl dX1_entry_22 ?_
      refine lv_if_ne (tgt := 37) hx hb dX1_entry_25 (by decide) (fun hc25 => ?_) (fun hc25 => ?_)
      · refine lv_iconst (v := 0) hx hb dX1_entry_37 (by decide) ?_
        have hpo : (0 : Int32) = 0 ∧ (yk (yd S) (yn S) (ym S) (yh S) (yg S) (yt S) 1 (yse S) (ynu S) (yes S) (yel S) (ygi S)) = (yk (yd S) (yn S) (ym S) (yh S) (yg S) (yt S) 1 (yse S) (ynu S) (yes S) (yel S) (ygi S)) := ⟨rfl, rfl⟩
        exact W.iret (v := 0) hx hb hr (fun t ht hW => ⟨⟨0, (yk (yd S) (yn S) (ym S) (yh S) (yg S) (yt S) 1 (yse S) (ynu S) (yes S) (yel S) (ygi S)), rfl, hpo, by rw [ht]; exact hP, va_K.moved hW.alike hK, hD⟩, hS.F ht⟩) hS.2.2 dX1_entry_38
      · exact absurd hc25 (by decide)

set_option maxHeartbeats 4000000 in
set_option maxRecDepth 100000 in
theorem kX1_put (l : Launch) (D : va_G) (q : Nat → Nat) (cA : ClassId) (S : MS) (hok : okM S) (x : Int32) (sz : Nat) : xw_Mv l yX1_put wsX1_put ({ frames := 0, cells := 0, slots := 0, locals := 0 }) D vwCl [(cA, .int)] [.ref (q 0), .int x] (wM q cA S) sz (fun u : MS => u = (yk (yd S) (yn S) (ym S) (yh S) (yg S) (m_put (yt S) x) (yth S) (yse S) (ynu S) (yes S) (yel S) (ygi S))) (wM q cA) := by
  refine Met.ofW (cc := cX1_put) (maxL := 2) (ret := none) (by decide) rfl ?_
  intro p e s m args below meth c s₁ B hml hv
  obtain ⟨rfl, hsz, hP, hK, hD0⟩ := hv
  subst hsz
  have hD := hD0.self (sz := s.heap.size)
  have hA : ∀ z, s.heap.size ≤ z → va_A (wM q cA S) s.heap.size z := fun z h => Or.inr h
  have hS : va_S (va_A (wM q cA S) s.heap.size) s.heap s.heap [] := va_S.rf
  obtain ⟨hn40, hh200, hg100⟩ := id hok
  have hx := B.exec
  have hb := B.bytes
  have hr := B.returns
  have hts := atoms_spec (ws := wsX1_put) B.pre
  have hown : s.vm.findClass RX1 = some m.cls := findClass_of_methodNamed B.named
  have hlocks := B.notSynchronized
  have hinX1 : ∀ w ∈ u_ws RX1 TX1 12, w ∈ wsX1_put := fun w h => List.mem_cons_of_mem _ (bw_X1 w h)
  have hf112 := hts _ (List.mem_cons_of_mem _ bw_268)
  have hl := lv_entry ([.ref (q 0), .int x]) (n := 2) (Nat.le_of_ble_eq_true rfl)
  rw [lg_entry_eq]
  generalize (lg_sl ([.ref (q 0), .int x]) ++ List.replicate (2 - (lg_sl ([.ref (q 0), .int x])).length) Slot.unset).toArray = ls at hl ⊢
  have hl : lv_has ls 2 [(0, .ref (q 0)), (1, .int x)] := hl
  refine lv_aload_n hx hb dX1_put_0 rfl (lv_at hl 0 rfl) ?_
  refine lv_iload_n hx hb dX1_put_1 rfl (lv_at hl 1 rfl) ?_
  refine lv_if_le (tgt := 16) hx hb dX1_put_2 (by decide) (fun hc2 => ?_) (fun hc2 => ?_)
  · refine lv_aload_n hx hb dX1_put_16 rfl (lv_at hl 0 rfl) ?_
    refine va_get (v := .int (yt S)) hx hb hts hinX1 hown hK hP 0 rfl rfl 10 (by decide) hf112 (fun _ h9 => h9) rfl dX1_put_17 ?_
    refine lv_iconst (v := 1) hx hb dX1_put_20 (by decide) ?_
    refine lv_iload_n hx hb dX1_put_21 rfl (lv_at hl 1 rfl) ?_
    refine lv_ineg hx hb dX1_put_22 ?_
    refine lv_ishl hx hb dX1_put_23 ?_
    refine lv_iconst (v := (-1)) hx hb dX1_put_24 (by decide) ?_
    refine xi_not hx hb dX1_put_25 ?_
    refine lv_iand hx hb dX1_put_26 ?_
    refine va_put (v := .int ((yt S) &&& (k_not (1 <<< ((-x) &&& 31))))) (ty := .int) hx hb hts hinX1 tyX1 tyX1_ok nmX1 hown hK hP hD hS 0 rfl rfl 10 (by decide) hf112 (fun _ h9 => h9) rfl (by decide +kernel) rfl rfl (Nat.le_of_ble_eq_true rfl) dX1_put_27 (fun H locs hP hD hS => ?_)
    have hP : va_P D vwCl (wM q cA (yk (yd S) (yn S) (ym S) (yh S) (yg S) ((yt S) &&& (k_not (1 <<< ((-x) &&& 31)))) (yth S) (yse S) (ynu S) (yes S) (yel S) (ygi S))) H := hP
    have hD : va_D _ (wM q cA (yk (yd S) (yn S) (ym S) (yh S) (yg S) ((yt S) &&& (k_not (1 <<< ((-x) &&& 31)))) (yth S) (yse S) (ynu S) (yes S) (yel S) (ygi S))) := hD
    have hpo : (yk (yd S) (yn S) (ym S) (yh S) (yg S) ((yt S) &&& (k_not (1 <<< ((-x) &&& 31)))) (yth S) (yse S) (ynu S) (yes S) (yel S) (ygi S)) = (yk (yd S) (yn S) (ym S) (yh S) (yg S) (m_put (yt S) x) (yth S) (yse S) (ynu S) (yes S) (yel S) (ygi S)) := by simp [m_put, hc2]
    exact W.vret hx hb hr (fun t ht hW => ⟨⟨(yk (yd S) (yn S) (ym S) (yh S) (yg S) ((yt S) &&& (k_not (1 <<< ((-x) &&& 31)))) (yth S) (yse S) (ynu S) (yes S) (yel S) (ygi S)), rfl, hpo, by rw [ht]; exact hP, va_K.moved hW.alike hK, hD⟩, hS.F ht⟩) hS.2.2 dX1_put_30
  · refine lv_aload_n hx hb dX1_put_5 rfl (lv_at hl 0 rfl) ?_
    refine va_get (v := .int (yt S)) hx hb hts hinX1 hown hK hP 0 rfl rfl 10 (by decide) hf112 (fun _ h9 => h9) rfl dX1_put_6 ?_
    refine lv_iconst (v := 1) hx hb dX1_put_9 (by decide) ?_
    refine lv_iload_n hx hb dX1_put_10 rfl (lv_at hl 1 rfl) ?_
    refine lv_ishl hx hb dX1_put_11 ?_
    refine lv_ior hx hb dX1_put_12 ?_
    refine lv_goto (tgt := 27) hx hb dX1_put_13 (by decide) ?_
    refine va_put (v := .int ((yt S) ||| (1 <<< (x &&& 31)))) (ty := .int) hx hb hts hinX1 tyX1 tyX1_ok nmX1 hown hK hP hD hS 0 rfl rfl 10 (by decide) hf112 (fun _ h9 => h9) rfl (by decide +kernel) rfl rfl (Nat.le_of_ble_eq_true rfl) dX1_put_27 (fun H locs hP hD hS => ?_)
    have hP : va_P D vwCl (wM q cA (yk (yd S) (yn S) (ym S) (yh S) (yg S) ((yt S) ||| (1 <<< (x &&& 31))) (yth S) (yse S) (ynu S) (yes S) (yel S) (ygi S))) H := hP
    have hD : va_D _ (wM q cA (yk (yd S) (yn S) (ym S) (yh S) (yg S) ((yt S) ||| (1 <<< (x &&& 31))) (yth S) (yse S) (ynu S) (yes S) (yel S) (ygi S))) := hD
    have hpo : (yk (yd S) (yn S) (ym S) (yh S) (yg S) ((yt S) ||| (1 <<< (x &&& 31))) (yth S) (yse S) (ynu S) (yes S) (yel S) (ygi S)) = (yk (yd S) (yn S) (ym S) (yh S) (yg S) (m_put (yt S) x) (yth S) (yse S) (ynu S) (yes S) (yel S) (ygi S)) := by simp [m_put, hc2]
    exact W.vret hx hb hr (fun t ht hW => ⟨⟨(yk (yd S) (yn S) (ym S) (yh S) (yg S) ((yt S) ||| (1 <<< (x &&& 31))) (yth S) (yse S) (ynu S) (yes S) (yel S) (ygi S)), rfl, hpo, by rw [ht]; exact hP, va_K.moved hW.alike hK, hD⟩, hS.F ht⟩) hS.2.2 dX1_put_30

set_option maxHeartbeats 4000000 in
set_option maxRecDepth 100000 in
theorem kX1_assign_ok (l : Launch) (D : va_G) (q : Nat → Nat) (cA : ClassId) (S : MS) (hok : okM S) (x b : Int32) (h9 : k_isV x = true) (sz : Nat) : xw_Mi l yX1_assign wsX1_assign ({ frames := 1, cells := 0, slots := 0, locals := 21 }) D vwCl [(cA, .int)] [.ref (q 0), .int x, .int b] (wM q cA S) sz (fun (r : Int32) (u : MS) => r = k_b (decide ((yt S >>> (x &&& 31)) &&& 1 = 1)) ∧ u = (yk (yd S) (yn S) (ym S) (yh S) (yg S) (m_put (yt S) (if b = 0 then -x else x)) 0 (yse S) (ynu S) (yes S) (yel S) (ygi S))) (wM q cA) := by
  refine Met.ofW (cc := cX1_assign) (maxL := 4) (ret := (some .boolean)) (by decide) rfl ?_
  intro p e s m args below meth c s₁ B hml hv
  obtain ⟨rfl, hsz, hP, hK, hD0⟩ := hv
  subst hsz
  have hD := hD0.self (sz := s.heap.size)
  have hA : ∀ z, s.heap.size ≤ z → va_A (wM q cA S) s.heap.size z := fun z h => Or.inr h
  have hS : va_S (va_A (wM q cA S) s.heap.size) s.heap s.heap [] := va_S.rf
  obtain ⟨hn40, hh200, hg100⟩ := id hok
  have hx := B.exec
  have hb := B.bytes
  have hr := B.returns
  have hts := atoms_spec (ws := wsX1_assign) B.pre
  have hown : s.vm.findClass RX1 = some m.cls := findClass_of_methodNamed B.named
  have hlocks := B.notSynchronized
  have hinX1 : ∀ w ∈ u_ws RX1 TX1 12, w ∈ wsX1_assign := fun w h => List.mem_cons_of_mem _ (bw_X1 w h)
  have hf25 := hts _ (List.mem_cons_of_mem _ bw_269)
  have hf112 := hts _ (List.mem_cons_of_mem _ bw_268)
  have hl := lv_entry ([.ref (q 0), .int x, .int b]) (n := 4) (Nat.le_of_ble_eq_true rfl)
  rw [lg_entry_eq]
  generalize (lg_sl ([.ref (q 0), .int x, .int b]) ++ List.replicate (4 - (lg_sl ([.ref (q 0), .int x, .int b])).length) Slot.unset).toArray = ls at hl ⊢
  have hl : lv_has ls 4 [(0, .ref (q 0)), (1, .int x), (2, .int b)] := hl
  refine lv_aload_n hx hb dX1_assign_0 rfl (lv_at hl 0 rfl) ?_
  refine lv_iload_n hx hb dX1_assign_1 rfl (lv_at hl 1 rfl) ?_
  refine lv_iconst (v := 1) hx hb dX1_assign_2 (by decide) ?_
  refine lv_icmp_lt (tgt := 12) hx hb dX1_assign_3 (by decide) (fun hc3 => ?_) (fun hc3 => ?_)
  · exact absurd hc3 (isV_split.mp h9).1
  · refine lv_iload_n hx hb dX1_assign_6 rfl (lv_at hl 1 rfl) ?_
    refine lv_bipush (v := 10) hx hb dX1_assign_7 (by decide) ?_
    refine lv_icmp_le (tgt := 16) hx hb dX1_assign_9 (by decide) (fun hc9 => ?_) (fun hc9 => ?_)
    · refine lv_iconst (v := 0) hx hb dX1_assign_16 (by decide) ?_
      refine va_put (v := .int 0) (ty := .int) hx hb hts hinX1 tyX1 tyX1_ok nmX1 hown hK hP hD hS 0 rfl rfl 11 (by decide) hf25 (fun _ h9 => h9) rfl (by decide +kernel) rfl rfl (Nat.le_of_ble_eq_true rfl) dX1_assign_17 (fun H locs hP hD hS => ?_)
      have hP : va_P D vwCl (wM q cA (yk (yd S) (yn S) (ym S) (yh S) (yg S) (yt S) 0 (yse S) (ynu S) (yes S) (yel S) (ygi S))) H := hP
      have hD : va_D _ (wM q cA (yk (yd S) (yn S) (ym S) (yh S) (yg S) (yt S) 0 (yse S) (ynu S) (yes S) (yel S) (ygi S))) := hD
      refine lv_aload_n hx hb dX1_assign_20 rfl (lv_at hl 0 rfl) ?_
      refine va_get (v := .int 0) hx hb hts hinX1 hown hK hP 0 rfl rfl 11 (by decide) hf25 (fun _ h9 => h9) rfl dX1_assign_21 ?_
      refine lv_if_eq (tgt := 29) hx hb dX1_assign_24 (by decide) (fun hc24 => ?_) (fun hc24 => ?_)
      · refine lv_aload_n hx hb dX1_assign_29 rfl (lv_at hl 0 rfl) ?_
        refine va_get (v := .int (yt S)) hx hb hts hinX1 hown hK hP 0 rfl rfl 10 (by decide) hf112 (fun _ h9 => h9) rfl dX1_assign_30 ?_
        refine lv_iload_n hx hb dX1_assign_33 rfl (lv_at hl 1 rfl) ?_
        refine lv_ishr hx hb dX1_assign_34 ?_
        refine lv_iconst (v := 1) hx hb dX1_assign_35 (by decide) ?_
        refine lv_iand hx hb dX1_assign_36 ?_
        refine lv_iconst (v := 1) hx hb dX1_assign_37 (by decide) ?_
        refine lv_icmp_ne (tgt := 45) hx hb dX1_assign_38 (by decide) (fun hc38 => ?_) (fun hc38 => ?_)
        · refine lv_iconst (v := 0) hx hb dX1_assign_45 (by decide) ?_
          refine lv_istore_n (lv' := [(3, .int 0), (0, .ref (q 0)), (1, .int x), (2, .int b)]) hx hb dX1_assign_46 rfl hl (by decide) rfl (fun ls hl => ?_)
          refine lv_aload_n hx hb dX1_assign_47 rfl (lv_at hl 1 rfl) ?_
          refine lv_iload_n hx hb dX1_assign_48 rfl (lv_at hl 3 rfl) ?_
          refine lv_if_eq (tgt := 56) hx hb dX1_assign_49 (by decide) (fun hc49 => ?_) (fun hc49 => ?_)
          · refine lv_iload_n hx hb dX1_assign_56 rfl (lv_at hl 2 rfl) ?_
            refine lv_ineg hx hb dX1_assign_57 ?_
            refine xc_wv (As := [.int (-x)]) (rest := []) ⟨hx, hb, hml, hown, hts⟩ (kX1_put l D q cA (yk (yd S) (yn S) (ym S) (yh S) (yg S) (yt S) 0 (yse S) (ynu S) (yes S) (yel S) (ygi S)) ⟨hn40, hh200, hg100⟩ (-x) _) (cwV 1 hts (gd_V bw_390 bw_391 bw_446 bw_2 bw_392) rfl rfl rfl (by decide +kernel) ⟨Nat.le_of_ble_eq_true rfl, Nat.le_of_ble_eq_true rfl⟩) (va_recv (ci := 1) (q0 := 0) hK hP rfl rfl) hP hK hD hS hA rfl hl.1 rfl (Nat.le_of_ble_eq_true rfl) dX1_assign_58 ⟨Nat.zero_le _, Nat.zero_le _⟩ (fun u1 H locs hu1 hP hD hS => ?_)
            refine lv_iload_n hx hb dX1_assign_61 rfl (lv_at hl 0 rfl) ?_
            have hpo : 0 = k_b (decide ((yt S >>> (x &&& 31)) &&& 1 = 1)) ∧ u1 = (yk (yd S) (yn S) (ym S) (yh S) (yg S) (m_put (yt S) (if b = 0 then -x else x)) 0 (yse S) (ynu S) (yes S) (yel S) (ygi S)) := ⟨by simp [k_b, hc38], by rw [hu1]; simp [hc49]⟩
            exact W.zret (v := 0) hx hb hr (by rfl) (fun t ht hW => ⟨⟨0, u1, rfl, hpo, by rw [ht]; exact hP, va_K.moved hW.alike hK, hD⟩, hS.F ht⟩) hS.2.2 dX1_assign_62
          · refine lv_iload_n hx hb dX1_assign_52 rfl (lv_at hl 2 rfl) ?_
            refine lv_goto (tgt := 58) hx hb dX1_assign_53 (by decide) ?_
            refine xc_wv (As := [.int x]) (rest := []) ⟨hx, hb, hml, hown, hts⟩ (kX1_put l D q cA (yk (yd S) (yn S) (ym S) (yh S) (yg S) (yt S) 0 (yse S) (ynu S) (yes S) (yel S) (ygi S)) ⟨hn40, hh200, hg100⟩ x _) (cwV 1 hts (gd_V bw_390 bw_391 bw_446 bw_2 bw_392) rfl rfl rfl (by decide +kernel) ⟨Nat.le_of_ble_eq_true rfl, Nat.le_of_ble_eq_true rfl⟩) (va_recv (ci := 1) (q0 := 0) hK hP rfl rfl) hP hK hD hS hA rfl hl.1 rfl (Nat.le_of_ble_eq_true rfl) dX1_assign_58 ⟨Nat.zero_le _, Nat.zero_le _⟩ (fun u3 H locs hu3 hP hD hS => ?_)
            refine lv_iload_n hx hb dX1_assign_61 rfl (lv_at hl 0 rfl) ?_
            have hpo : 0 = k_b (decide ((yt S >>> (x &&& 31)) &&& 1 = 1)) ∧ u3 = (yk (yd S) (yn S) (ym S) (yh S) (yg S) (m_put (yt S) (if b = 0 then -x else x)) 0 (yse S) (ynu S) (yes S) (yel S) (ygi S)) := ⟨by simp [k_b, hc38], by rw [hu3]; simp [hc49]⟩
            exact W.zret (v := 0) hx hb hr (by rfl) (fun t ht hW => ⟨⟨0, u3, rfl, hpo, by rw [ht]; exact hP, va_K.moved hW.alike hK, hD⟩, hS.F ht⟩) hS.2.2 dX1_assign_62
        · refine lv_iconst (v := 1) hx hb dX1_assign_41 (by decide) ?_
          refine lv_goto (tgt := 46) hx hb dX1_assign_42 (by decide) ?_
          refine lv_istore_n (lv' := [(3, .int 1), (0, .ref (q 0)), (1, .int x), (2, .int b)]) hx hb dX1_assign_46 rfl hl (by decide) rfl (fun ls hl => ?_)
          refine lv_aload_n hx hb dX1_assign_47 rfl (lv_at hl 1 rfl) ?_
          refine lv_iload_n hx hb dX1_assign_48 rfl (lv_at hl 3 rfl) ?_
          refine lv_if_eq (tgt := 56) hx hb dX1_assign_49 (by decide) (fun hc49 => ?_) (fun hc49 => ?_)
          · refine lv_iload_n hx hb dX1_assign_56 rfl (lv_at hl 2 rfl) ?_
            refine lv_ineg hx hb dX1_assign_57 ?_
            refine xc_wv (As := [.int (-x)]) (rest := []) ⟨hx, hb, hml, hown, hts⟩ (kX1_put l D q cA (yk (yd S) (yn S) (ym S) (yh S) (yg S) (yt S) 0 (yse S) (ynu S) (yes S) (yel S) (ygi S)) ⟨hn40, hh200, hg100⟩ (-x) _) (cwV 1 hts (gd_V bw_390 bw_391 bw_446 bw_2 bw_392) rfl rfl rfl (by decide +kernel) ⟨Nat.le_of_ble_eq_true rfl, Nat.le_of_ble_eq_true rfl⟩) (va_recv (ci := 1) (q0 := 0) hK hP rfl rfl) hP hK hD hS hA rfl hl.1 rfl (Nat.le_of_ble_eq_true rfl) dX1_assign_58 ⟨Nat.zero_le _, Nat.zero_le _⟩ (fun u5 H locs hu5 hP hD hS => ?_)
            refine lv_iload_n hx hb dX1_assign_61 rfl (lv_at hl 0 rfl) ?_
            have hpo : 1 = k_b (decide ((yt S >>> (x &&& 31)) &&& 1 = 1)) ∧ u5 = (yk (yd S) (yn S) (ym S) (yh S) (yg S) (m_put (yt S) (if b = 0 then -x else x)) 0 (yse S) (ynu S) (yes S) (yel S) (ygi S)) := ⟨by simp [k_b, hc38], by rw [hu5]; simp [hc49]⟩
            exact W.zret (v := 1) hx hb hr (by rfl) (fun t ht hW => ⟨⟨1, u5, rfl, hpo, by rw [ht]; exact hP, va_K.moved hW.alike hK, hD⟩, hS.F ht⟩) hS.2.2 dX1_assign_62
          · refine lv_iload_n hx hb dX1_assign_52 rfl (lv_at hl 2 rfl) ?_
            refine lv_goto (tgt := 58) hx hb dX1_assign_53 (by decide) ?_
            refine xc_wv (As := [.int x]) (rest := []) ⟨hx, hb, hml, hown, hts⟩ (kX1_put l D q cA (yk (yd S) (yn S) (ym S) (yh S) (yg S) (yt S) 0 (yse S) (ynu S) (yes S) (yel S) (ygi S)) ⟨hn40, hh200, hg100⟩ x _) (cwV 1 hts (gd_V bw_390 bw_391 bw_446 bw_2 bw_392) rfl rfl rfl (by decide +kernel) ⟨Nat.le_of_ble_eq_true rfl, Nat.le_of_ble_eq_true rfl⟩) (va_recv (ci := 1) (q0 := 0) hK hP rfl rfl) hP hK hD hS hA rfl hl.1 rfl (Nat.le_of_ble_eq_true rfl) dX1_assign_58 ⟨Nat.zero_le _, Nat.zero_le _⟩ (fun u7 H locs hu7 hP hD hS => ?_)
            refine lv_iload_n hx hb dX1_assign_61 rfl (lv_at hl 0 rfl) ?_
            have hpo : 1 = k_b (decide ((yt S >>> (x &&& 31)) &&& 1 = 1)) ∧ u7 = (yk (yd S) (yn S) (ym S) (yh S) (yg S) (m_put (yt S) (if b = 0 then -x else x)) 0 (yse S) (ynu S) (yes S) (yel S) (ygi S)) := ⟨by simp [k_b, hc38], by rw [hu7]; simp [hc49]⟩
            exact W.zret (v := 1) hx hb hr (by rfl) (fun t ht hW => ⟨⟨1, u7, rfl, hpo, by rw [ht]; exact hP, va_K.moved hW.alike hK, hD⟩, hS.F ht⟩) hS.2.2 dX1_assign_62
      · exact absurd hc24 (by decide)
    · exact absurd (Int32.not_le.mp hc9) (isV_split.mp h9).2

set_option maxHeartbeats 4000000 in
set_option maxRecDepth 100000 in
theorem kX1_assign_no (l : Launch) (D : va_G) (q : Nat → Nat) (cA : ClassId) (S : MS) (hok : okM S) (x b : Int32) (h9 : k_isV x = false) (sz : Nat) : xw_Mi l yX1_assign wsX1_assign ({ frames := 0, cells := 0, slots := 0, locals := 0 }) D vwCl [(cA, .int)] [.ref (q 0), .int x, .int b] (wM q cA S) sz (fun (r : Int32) (u : MS) => (r : Int32) = 0 ∧ u = (yk (yd S) (yn S) (ym S) (yh S) (yg S) (yt S) 1 (yse S) (ynu S) (yes S) (yel S) (ygi S))) (wM q cA) := by
  refine Met.ofW (cc := cX1_assign) (maxL := 4) (ret := (some .boolean)) (by decide) rfl ?_
  intro p e s m args below meth c s₁ B hml hv
  obtain ⟨rfl, hsz, hP, hK, hD0⟩ := hv
  subst hsz
  have hD := hD0.self (sz := s.heap.size)
  have hA : ∀ z, s.heap.size ≤ z → va_A (wM q cA S) s.heap.size z := fun z h => Or.inr h
  have hS : va_S (va_A (wM q cA S) s.heap.size) s.heap s.heap [] := va_S.rf
  obtain ⟨hn40, hh200, hg100⟩ := id hok
  have hx := B.exec
  have hb := B.bytes
  have hr := B.returns
  have hts := atoms_spec (ws := wsX1_assign) B.pre
  have hown : s.vm.findClass RX1 = some m.cls := findClass_of_methodNamed B.named
  have hlocks := B.notSynchronized
  have hinX1 : ∀ w ∈ u_ws RX1 TX1 12, w ∈ wsX1_assign := fun w h => List.mem_cons_of_mem _ (bw_X1 w h)
  have hf25 := hts _ (List.mem_cons_of_mem _ bw_269)
  have hl := lv_entry ([.ref (q 0), .int x, .int b]) (n := 4) (Nat.le_of_ble_eq_true rfl)
  rw [lg_entry_eq]
  generalize (lg_sl ([.ref (q 0), .int x, .int b]) ++ List.replicate (4 - (lg_sl ([.ref (q 0), .int x, .int b])).length) Slot.unset).toArray = ls at hl ⊢
  have hl : lv_has ls 4 [(0, .ref (q 0)), (1, .int x), (2, .int b)] := hl
  refine lv_aload_n hx hb dX1_assign_0 rfl (lv_at hl 0 rfl) ?_
  refine lv_iload_n hx hb dX1_assign_1 rfl (lv_at hl 1 rfl) ?_
  refine lv_iconst (v := 1) hx hb dX1_assign_2 (by decide) ?_
  refine lv_icmp_lt (tgt := 12) hx hb dX1_assign_3 (by decide) (fun hc3 => ?_) (fun hc3 => ?_)
  · refine lv_iconst (v := 1) hx hb dX1_assign_12 (by decide) ?_
    refine lv_goto (tgt := 17) hx hb dX1_assign_13 (by decide) ?_
    refine va_put (v := .int 1) (ty := .int) hx hb hts hinX1 tyX1 tyX1_ok nmX1 hown hK hP hD hS 0 rfl rfl 11 (by decide) hf25 (fun _ h9 => h9) rfl (by decide +kernel) rfl rfl (Nat.le_of_ble_eq_true rfl) dX1_assign_17 (fun H locs hP hD hS => ?_)
    have hP : va_P D vwCl (wM q cA (yk (yd S) (yn S) (ym S) (yh S) (yg S) (yt S) 1 (yse S) (ynu S) (yes S) (yel S) (ygi S))) H := hP
    have hD : va_D _ (wM q cA (yk (yd S) (yn S) (ym S) (yh S) (yg S) (yt S) 1 (yse S) (ynu S) (yes S) (yel S) (ygi S))) := hD
    refine lv_aload_n hx hb dX1_assign_20 rfl (lv_at hl 0 rfl) ?_
    refine va_get (v := .int 1) hx hb hts hinX1 hown hK hP 0 rfl rfl 11 (by decide) hf25 (fun _ h9 => h9) rfl dX1_assign_21 ?_
    refine lv_if_eq (tgt := 29) hx hb dX1_assign_24 (by decide) (fun hc24 => ?_) (fun hc24 => ?_)
    · exact absurd hc24 (by decide)
    · refine lv_iconst (v := 0) hx hb dX1_assign_27 (by decide) ?_
      have hpo : (0 : Int32) = 0 ∧ (yk (yd S) (yn S) (ym S) (yh S) (yg S) (yt S) 1 (yse S) (ynu S) (yes S) (yel S) (ygi S)) = (yk (yd S) (yn S) (ym S) (yh S) (yg S) (yt S) 1 (yse S) (ynu S) (yes S) (yel S) (ygi S)) := ⟨rfl, rfl⟩
      exact W.zret (v := 0) hx hb hr (by rfl) (fun t ht hW => ⟨⟨0, (yk (yd S) (yn S) (ym S) (yh S) (yg S) (yt S) 1 (yse S) (ynu S) (yes S) (yel S) (ygi S)), rfl, hpo, by rw [ht]; exact hP, va_K.moved hW.alike hK, hD⟩, hS.F ht⟩) hS.2.2 dX1_assign_28
  · refine lv_iload_n hx hb dX1_assign_6 rfl (lv_at hl 1 rfl) ?_
    refine lv_bipush (v := 10) hx hb dX1_assign_7 (by decide) ?_
    refine lv_icmp_le (tgt := 16) hx hb dX1_assign_9 (by decide) (fun hc9 => ?_) (fun hc9 => ?_)
    · exact absurd h9 (by rw [Bool.not_eq_false, isV_split]; exact ⟨hc3, Int32.not_lt.mpr hc9⟩)
    · refine lv_iconst (v := 1) hx hb dX1_assign_12 (by decide) ?_
      refine lv_goto (tgt := 17) hx hb dX1_assign_13 (by decide) ?_
      refine va_put (v := .int 1) (ty := .int) hx hb hts hinX1 tyX1 tyX1_ok nmX1 hown hK hP hD hS 0 rfl rfl 11 (by decide) hf25 (fun _ h9 => h9) rfl (by decide +kernel) rfl rfl (Nat.le_of_ble_eq_true rfl) dX1_assign_17 (fun H locs hP hD hS => ?_)
      have hP : va_P D vwCl (wM q cA (yk (yd S) (yn S) (ym S) (yh S) (yg S) (yt S) 1 (yse S) (ynu S) (yes S) (yel S) (ygi S))) H := hP
      have hD : va_D _ (wM q cA (yk (yd S) (yn S) (ym S) (yh S) (yg S) (yt S) 1 (yse S) (ynu S) (yes S) (yel S) (ygi S))) := hD
      refine lv_aload_n hx hb dX1_assign_20 rfl (lv_at hl 0 rfl) ?_
      refine va_get (v := .int 1) hx hb hts hinX1 hown hK hP 0 rfl rfl 11 (by decide) hf25 (fun _ h9 => h9) rfl dX1_assign_21 ?_
      refine lv_if_eq (tgt := 29) hx hb dX1_assign_24 (by decide) (fun hc24 => ?_) (fun hc24 => ?_)
      · exact absurd hc24 (by decide)
      · refine lv_iconst (v := 0) hx hb dX1_assign_27 (by decide) ?_
        have hpo : (0 : Int32) = 0 ∧ (yk (yd S) (yn S) (ym S) (yh S) (yg S) (yt S) 1 (yse S) (ynu S) (yes S) (yel S) (ygi S)) = (yk (yd S) (yn S) (ym S) (yh S) (yg S) (yt S) 1 (yse S) (ynu S) (yes S) (yel S) (ygi S)) := ⟨rfl, rfl⟩
        exact W.zret (v := 0) hx hb hr (by rfl) (fun t ht hW => ⟨⟨0, (yk (yd S) (yn S) (ym S) (yh S) (yg S) (yt S) 1 (yse S) (ynu S) (yes S) (yel S) (ygi S)), rfl, hpo, by rw [ht]; exact hP, va_K.moved hW.alike hK, hD⟩, hS.F ht⟩) hS.2.2 dX1_assign_28

set_option maxHeartbeats 4000000 in
set_option maxRecDepth 100000 in
theorem kX1_literal_ok (l : Launch) (D : va_G) (q : Nat → Nat) (cA : ClassId) (S : MS) (hok : okM S) (x : Int32) (h9 : k_isL x = true) (sz : Nat) : xw_Mi l yX1_literal wsX1_literal ({ frames := 1, cells := 0, slots := 0, locals := 22 }) D vwCl [(cA, .int)] [.ref (q 0), .int x] (wM q cA S) sz (fun (r : Int32) (u : MS) => r = nI (k_pc (yd S ||| m_bit x)) ∧ u = (yk (yd S ||| m_bit x) (yn S) (ym S) (yh S) (yg S) (yt S) 0 (yse S) (ynu S) (yes S) (yel S) (ygi S))) (wM q cA) := by
  refine Met.ofW (cc := cX1_literal) (maxL := 2) (ret := (some .int)) (by decide) rfl ?_
  intro p e s m args below meth c s₁ B hml hv
  obtain ⟨rfl, hsz, hP, hK, hD0⟩ := hv
  subst hsz
  have hD := hD0.self (sz := s.heap.size)
  have hA : ∀ z, s.heap.size ≤ z → va_A (wM q cA S) s.heap.size z := fun z h => Or.inr h
  have hS : va_S (va_A (wM q cA S) s.heap.size) s.heap s.heap [] := va_S.rf
  obtain ⟨hn40, hh200, hg100⟩ := id hok
  have hx := B.exec
  have hb := B.bytes
  have hr := B.returns
  have hts := atoms_spec (ws := wsX1_literal) B.pre
  have hown : s.vm.findClass RX1 = some m.cls := findClass_of_methodNamed B.named
  have hlocks := B.notSynchronized
  have hinX1 : ∀ w ∈ u_ws RX1 TX1 12, w ∈ wsX1_literal := fun w h => List.mem_cons_of_mem _ (bw_X1 w h)
  have hf25 := hts _ (List.mem_cons_of_mem _ bw_269)
  have hf53 := hts _ (List.mem_cons_of_mem _ bw_258)
  have hl := lv_entry ([.ref (q 0), .int x]) (n := 2) (Nat.le_of_ble_eq_true rfl)
  rw [lg_entry_eq]
  generalize (lg_sl ([.ref (q 0), .int x]) ++ List.replicate (2 - (lg_sl ([.ref (q 0), .int x])).length) Slot.unset).toArray = ls at hl ⊢
  have hl : lv_has ls 2 [(0, .ref (q 0)), (1, .int x)] := hl
  refine lv_aload_n hx hb dX1_literal_0 rfl (lv_at hl 0 rfl) ?_
  refine lv_iload_n hx hb dX1_literal_1 rfl (lv_at hl 1 rfl) ?_
  refine xc_s (As := [.int x]) (rest := [.ref (q 0)]) ⟨hx, hb, hml, hown, hts⟩ (kX1_isLiteral l x) (va_cwS 1 hts (gd_S bw_290 bw_291 bw_2 bw_292) rfl rfl rfl (by decide +kernel) ⟨Nat.le_of_ble_eq_true rfl, Nat.le_of_ble_eq_true rfl⟩) rfl hl.1 rfl (Nat.le_of_ble_eq_true rfl) dX1_literal_2 ⟨Nat.zero_le _, Nat.zero_le _⟩ ?_
  refine lv_if_eq (tgt := 12) hx hb dX1_literal_5 (by decide) (fun hc5 => ?_) (fun hc5 => ?_)
  · exact absurd (kb_0.mp hc5) (by rw [h9]; decide)
  · refine lv_iconst (v := 0) hx hb dX1_literal_8 (by decide) ?_
    refine lv_goto (tgt := 13) hx hb dX1_literal_9 (by decide) ?_
    refine va_put (v := .int 0) (ty := .int) hx hb hts hinX1 tyX1 tyX1_ok nmX1 hown hK hP hD hS 0 rfl rfl 11 (by decide) hf25 (fun _ h9 => h9) rfl (by decide +kernel) rfl rfl (Nat.le_of_ble_eq_true rfl) dX1_literal_13 (fun H locs hP hD hS => ?_)
    have hP : va_P D vwCl (wM q cA (yk (yd S) (yn S) (ym S) (yh S) (yg S) (yt S) 0 (yse S) (ynu S) (yes S) (yel S) (ygi S))) H := hP
    have hD : va_D _ (wM q cA (yk (yd S) (yn S) (ym S) (yh S) (yg S) (yt S) 0 (yse S) (ynu S) (yes S) (yel S) (ygi S))) := hD
    refine lv_aload_n hx hb dX1_literal_16 rfl (lv_at hl 0 rfl) ?_
    refine va_get (v := .int 0) hx hb hts hinX1 hown hK hP 0 rfl rfl 11 (by decide) hf25 (fun _ h9 => h9) rfl dX1_literal_17 ?_
    refine lv_if_eq (tgt := 25) hx hb dX1_literal_20 (by decide) (fun hc20 => ?_) (fun hc20 => ?_)
    · refine lv_aload_n hx hb dX1_literal_25 rfl (lv_at hl 0 rfl) ?_
      refine lv_dup hx hb dX1_literal_26 rfl ?_
      refine va_get (v := .int (yd S)) hx hb hts hinX1 hown hK hP 0 rfl rfl 0 (by decide) hf53 (fun _ h9 => h9) rfl dX1_literal_27 ?_
      refine lv_iload_n hx hb dX1_literal_30 rfl (lv_at hl 1 rfl) ?_
      refine xc_s (As := [.int x]) (rest := [.int (yd S), .ref (q 0)]) ⟨hx, hb, hml, hown, hts⟩ (kX1_bit l x) (va_cwS 1 hts (gd_S bw_293 bw_294 bw_2 bw_295) rfl rfl rfl (by decide +kernel) ⟨Nat.le_of_ble_eq_true rfl, Nat.le_of_ble_eq_true rfl⟩) rfl hl.1 rfl (Nat.le_of_ble_eq_true rfl) dX1_literal_31 ⟨Nat.zero_le _, Nat.zero_le _⟩ ?_
      refine lv_ior hx hb dX1_literal_34 ?_
      refine va_put (v := .int ((yd S) ||| (m_bit x))) (ty := .int) hx hb hts hinX1 tyX1 tyX1_ok nmX1 hown hK hP hD hS 0 rfl rfl 0 (by decide) hf53 (fun _ h9 => h9) rfl (by decide +kernel) rfl rfl (Nat.le_of_ble_eq_true rfl) dX1_literal_35 (fun H locs hP hD hS => ?_)
      have hP : va_P D vwCl (wM q cA (yk ((yd S) ||| (m_bit x)) (yn S) (ym S) (yh S) (yg S) (yt S) 0 (yse S) (ynu S) (yes S) (yel S) (ygi S))) H := hP
      have hD : va_D _ (wM q cA (yk ((yd S) ||| (m_bit x)) (yn S) (ym S) (yh S) (yg S) (yt S) 0 (yse S) (ynu S) (yes S) (yel S) (ygi S))) := hD
      refine lv_aload_n hx hb dX1_literal_38 rfl (lv_at hl 0 rfl) ?_
      refine va_get (v := .int ((yd S) ||| (m_bit x))) hx hb hts hinX1 hown hK hP 0 rfl rfl 0 (by decide) hf53 (fun _ h9 => h9) rfl dX1_literal_39 ?_
      refine xc_s (As := [.int ((yd S) ||| (m_bit x))]) (rest := []) ⟨hx, hb, hml, hown, hts⟩ (kX1_ones l ((yd S) ||| (m_bit x))) (va_cwS 1 hts (gd_S bw_296 bw_297 bw_2 bw_298) rfl rfl rfl (by decide +kernel) ⟨Nat.le_of_ble_eq_true rfl, Nat.le_of_ble_eq_true rfl⟩) rfl hl.1 rfl (Nat.le_of_ble_eq_true rfl) dX1_literal_42 ⟨Nat.zero_le _, Nat.zero_le _⟩ ?_
      have hpo : nI (k_pc ((yd S) ||| (m_bit x))) = nI (k_pc (yd S ||| m_bit x)) ∧ (yk ((yd S) ||| (m_bit x)) (yn S) (ym S) (yh S) (yg S) (yt S) 0 (yse S) (ynu S) (yes S) (yel S) (ygi S)) = (yk (yd S ||| m_bit x) (yn S) (ym S) (yh S) (yg S) (yt S) 0 (yse S) (ynu S) (yes S) (yel S) (ygi S)) := ⟨rfl, rfl⟩
      exact W.iret (v := (nI (k_pc ((yd S) ||| (m_bit x))))) hx hb hr (fun t ht hW => ⟨⟨(nI (k_pc ((yd S) ||| (m_bit x)))), (yk ((yd S) ||| (m_bit x)) (yn S) (ym S) (yh S) (yg S) (yt S) 0 (yse S) (ynu S) (yes S) (yel S) (ygi S)), rfl, hpo, by rw [ht]; exact hP, va_K.moved hW.alike hK, hD⟩, hS.F ht⟩) hS.2.2 dX1_literal_45
    · exact absurd hc20 (by decide)

set_option maxHeartbeats 4000000 in
set_option maxRecDepth 100000 in
theorem kX1_literal_no (l : Launch) (D : va_G) (q : Nat → Nat) (cA : ClassId) (S : MS) (hok : okM S) (x : Int32) (h9 : k_isL x = false) (sz : Nat) : xw_Mi l yX1_literal wsX1_literal ({ frames := 1, cells := 0, slots := 0, locals := 20 }) D vwCl [(cA, .int)] [.ref (q 0), .int x] (wM q cA S) sz (fun (r : Int32) (u : MS) => (r : Int32) = 0 ∧ u = (yk (yd S) (yn S) (ym S) (yh S) (yg S) (yt S) 1 (yse S) (ynu S) (yes S) (yel S) (ygi S))) (wM q cA) := by
  refine Met.ofW (cc := cX1_literal) (maxL := 2) (ret := (some .int)) (by decide) rfl ?_
  intro p e s m args below meth c s₁ B hml hv
  obtain ⟨rfl, hsz, hP, hK, hD0⟩ := hv
  subst hsz
  have hD := hD0.self (sz := s.heap.size)
  have hA : ∀ z, s.heap.size ≤ z → va_A (wM q cA S) s.heap.size z := fun z h => Or.inr h
  have hS : va_S (va_A (wM q cA S) s.heap.size) s.heap s.heap [] := va_S.rf
  obtain ⟨hn40, hh200, hg100⟩ := id hok
  have hx := B.exec
  have hb := B.bytes
  have hr := B.returns
  have hts := atoms_spec (ws := wsX1_literal) B.pre
  have hown : s.vm.findClass RX1 = some m.cls := findClass_of_methodNamed B.named
  have hlocks := B.notSynchronized
  have hinX1 : ∀ w ∈ u_ws RX1 TX1 12, w ∈ wsX1_literal := fun w h => List.mem_cons_of_mem _ (bw_X1 w h)
  have hf25 := hts _ (List.mem_cons_of_mem _ bw_269)
  have hl := lv_entry ([.ref (q 0), .int x]) (n := 2) (Nat.le_of_ble_eq_true rfl)
  rw [lg_entry_eq]
  generalize (lg_sl ([.ref (q 0), .int x]) ++ List.replicate (2 - (lg_sl ([.ref (q 0), .int x])).length) Slot.unset).toArray = ls at hl ⊢
  have hl : lv_has ls 2 [(0, .ref (q 0)), (1, .int x)] := hl
  refine lv_aload_n hx hb dX1_literal_0 rfl (lv_at hl 0 rfl) ?_
  refine lv_iload_n hx hb dX1_literal_1 rfl (lv_at hl 1 rfl) ?_
  refine xc_s (As := [.int x]) (rest := [.ref (q 0)]) ⟨hx, hb, hml, hown, hts⟩ (kX1_isLiteral l x) (va_cwS 1 hts (gd_S bw_290 bw_291 bw_2 bw_292) rfl rfl rfl (by decide +kernel) ⟨Nat.le_of_ble_eq_true rfl, Nat.le_of_ble_eq_true rfl⟩) rfl hl.1 rfl (Nat.le_of_ble_eq_true rfl) dX1_literal_2 ⟨Nat.zero_le _, Nat.zero_le _⟩ ?_
  refine lv_if_eq (tgt := 12) hx hb dX1_literal_5 (by decide) (fun hc5 => ?_) (fun hc5 => ?_)
  · refine lv_iconst (v := 1) hx hb dX1_literal_12 (by decide) ?_
    refine va_put (v := .int 1) (ty := .int) hx hb hts hinX1 tyX1 tyX1_ok nmX1 hown hK hP hD hS 0 rfl rfl 11 (by decide) hf25 (fun _ h9 => h9) rfl (by decide +kernel) rfl rfl (Nat.le_of_ble_eq_true rfl) dX1_literal_13 (fun H locs hP hD hS => ?_)
    have hP : va_P D vwCl (wM q cA (yk (yd S) (yn S) (ym S) (yh S) (yg S) (yt S) 1 (yse S) (ynu S) (yes S) (yel S) (ygi S))) H := hP
    have hD : va_D _ (wM q cA (yk (yd S) (yn S) (ym S) (yh S) (yg S) (yt S) 1 (yse S) (ynu S) (yes S) (yel S) (ygi S))) := hD
    refine lv_aload_n hx hb dX1_literal_16 rfl (lv_at hl 0 rfl) ?_
    refine va_get (v := .int 1) hx hb hts hinX1 hown hK hP 0 rfl rfl 11 (by decide) hf25 (fun _ h9 => h9) rfl dX1_literal_17 ?_
    refine lv_if_eq (tgt := 25) hx hb dX1_literal_20 (by decide) (fun hc20 => ?_) (fun hc20 => ?_)
    · exact absurd hc20 (by decide)
    · refine lv_iconst (v := 0) hx hb dX1_literal_23 (by decide) ?_
      have hpo : (0 : Int32) = 0 ∧ (yk (yd S) (yn S) (ym S) (yh S) (yg S) (yt S) 1 (yse S) (ynu S) (yes S) (yel S) (ygi S)) = (yk (yd S) (yn S) (ym S) (yh S) (yg S) (yt S) 1 (yse S) (ynu S) (yes S) (yel S) (ygi S)) := ⟨rfl, rfl⟩
      exact W.iret (v := 0) hx hb hr (fun t ht hW => ⟨⟨0, (yk (yd S) (yn S) (ym S) (yh S) (yg S) (yt S) 1 (yse S) (ynu S) (yes S) (yel S) (ygi S)), rfl, hpo, by rw [ht]; exact hP, va_K.moved hW.alike hK, hD⟩, hS.F ht⟩) hS.2.2 dX1_literal_24
  · exact absurd (kb_n0.mp hc5) (by rw [h9]; decide)

set_option maxHeartbeats 4000000 in
set_option maxRecDepth 100000 in
theorem kX1_failingIn (l : Launch) (D : va_G) (q : Nat → Nat) (cA : ClassId) (S : MS) (hok : okM S) (y : Int32) : xr_M l yX1_failingIn wsX1_failingIn ({ frames := 1, cells := 0, slots := 0, locals := 21 }) D vwCl [(cA, .int)] [.ref (q 0), .int y] (wM q cA S) (nI (q_ct (fun k => !m_true (q_set (vML S) k) y) (vML S).length 0 0)) := by
  refine Met.ofW (cc := cX1_failingIn) (maxL := 4) (ret := (some .int)) (by decide) rfl ?_
  intro p e s m args below meth c s₁ B hml hv
  obtain ⟨rfl, hP, hK⟩ := hv
  obtain ⟨hn40, hh200, hg100⟩ := id hok
  have hx := B.exec
  have hb := B.bytes
  have hr := B.returns
  have hts := atoms_spec (ws := wsX1_failingIn) B.pre
  have hown : s.vm.findClass RX1 = some m.cls := findClass_of_methodNamed B.named
  have hlocks := B.notSynchronized
  have hinX1 : ∀ w ∈ u_ws RX1 TX1 12, w ∈ wsX1_failingIn := fun w h => List.mem_cons_of_mem _ (bw_X1 w h)
  have hf7 := hts _ (List.mem_cons_of_mem _ bw_260)
  have hf33 := hts _ (List.mem_cons_of_mem _ bw_259)
  have hl := lv_entry ([.ref (q 0), .int y]) (n := 4) (Nat.le_of_ble_eq_true rfl)
  rw [lg_entry_eq]
  generalize (lg_sl ([.ref (q 0), .int y]) ++ List.replicate (4 - (lg_sl ([.ref (q 0), .int y])).length) Slot.unset).toArray = ls at hl ⊢
  have hl : lv_has ls 4 [(0, .ref (q 0)), (1, .int y)] := hl
  refine lv_iconst (v := 0) hx hb dX1_failingIn_0 (by decide) ?_
  refine lv_istore_n (lv' := [(2, .int 0), (0, .ref (q 0)), (1, .int y)]) hx hb dX1_failingIn_1 rfl hl (by decide) rfl (fun ls hl => ?_)
  refine lv_iconst (v := 0) hx hb dX1_failingIn_2 (by decide) ?_
  refine lv_istore_n (lv' := [(3, .int 0), (2, .int 0), (0, .ref (q 0)), (1, .int y)]) hx hb dX1_failingIn_3 rfl hl (by decide) rfl (fun ls hl => ?_)
  refine wlr (σ := Nat × Nat) (fun (x9 : Nat × Nat) ls => match x9 with | (k, a) => lv_has ls 4 [(3, .int (nI k)), (2, .int (nI a)), (0, .ref (q 0)), (1, .int y)] ∧ k ≤ yn S ∧ a ≤ k ∧ q_ct (fun k => !m_true (q_set (vML S) k) y) (yn S - 0) 0 0 = q_ct (fun k => !m_true (q_set (vML S) k) y) (yn S - k) k a) (fun (x9 : Nat × Nat) => match x9 with | (k, a) => yn S - k) (0, 0) ⟨lv_sub hl [0, 1, 2, 3] rfl, (Nat.zero_le _), (Nat.zero_le _), rfl⟩ ?_
  intro x9 ls hI ih4
  obtain ⟨k, a⟩ := x9
  obtain ⟨hl, hk, ha, hq⟩ := hI
  have hl : lv_has ls 4 [(3, .int (nI k)), (2, .int (nI a)), (0, .ref (q 0)), (1, .int y)] := hl
  refine lv_iload_n hx hb dX1_failingIn_4 rfl (lv_at hl 0 rfl) ?_
  refine lv_aload_n hx hb dX1_failingIn_5 rfl (lv_at hl 2 rfl) ?_
  refine va_get (v := .int (nI (yn S))) hx hb hts hinX1 hown hK hP 0 rfl rfl 1 (by decide) hf33 (fun _ h9 => h9) rfl dX1_failingIn_6 ?_
  refine lv_icmp_ge (tgt := 39) hx hb dX1_failingIn_9 (by decide) (fun hc9 => ?_) (fun hc9 => ?_)
  · have hge : yn S ≤ k := (nI_leI (by omega) (by omega)).mp hc9
    refine lv_iload_n hx hb dX1_failingIn_39 rfl (lv_at hl 1 rfl) ?_
    have hv9 : nI (q_ct (fun k => !m_true (q_set (vML S) k) y) (vML S).length 0 0) = nI a := by rw [vML_len, show q_ct (fun k => !m_true (q_set (vML S) k) y) (yn S) 0 0 = q_ct (fun k => !m_true (q_set (vML S) k) y) (yn S - 0) 0 0 from rfl, hq, q_ct_end hge]
    exact W.iret (v := (nI a)) hx hb hr (fun t ht hW => ⟨by rw [hv9], ht⟩) (fun _ h => nomatch h) dX1_failingIn_40
  · have hlt : k < yn S := Nat.lt_of_not_le (fun z => hc9 ((nI_leI (by omega) (by omega)).mpr z))
    have hs : q_set (vML S) k = yse S k := q_set_of hlt
    refine lv_aload_n hx hb dX1_failingIn_12 rfl (lv_at hl 2 rfl) ?_
    refine va_get (v := .ref (q 1)) hx hb hts hinX1 hown hK hP 0 rfl rfl 2 (by decide) hf7 (fun _ h9 => h9) rfl dX1_failingIn_13 ?_
    refine lv_iload_n hx hb dX1_failingIn_16 rfl (lv_at hl 0 rfl) ?_
    refine xa_ld hx hb hK hP 1 0 rfl rfl k (by omega) (by first | decide | assumption) dX1_failingIn_17 ?_
    refine lv_iload_n hx hb dX1_failingIn_18 rfl (lv_at hl 3 rfl) ?_
    refine xc_s (As := [.int ((yse S) k), .int y]) (rest := []) ⟨hx, hb, hml, hown, hts⟩ (kX1_isTrue l ((yse S) k) y) (va_cwS 2 hts (gd_S bw_363 bw_364 bw_2 bw_365) rfl rfl rfl (by decide +kernel) ⟨Nat.le_of_ble_eq_true rfl, Nat.le_of_ble_eq_true rfl⟩) rfl hl.1 rfl (Nat.le_of_ble_eq_true rfl) dX1_failingIn_19 ⟨Nat.zero_le _, Nat.zero_le _⟩ ?_
    refine lv_if_eq (tgt := 29) hx hb dX1_failingIn_22 (by decide) (fun hc22 => ?_) (fun hc22 => ?_)
    · have hc22 := kb_0.mp hc22
      refine lv_iload_n hx hb dX1_failingIn_29 rfl (lv_at hl 1 rfl) ?_
      refine lv_iconst (v := 1) hx hb dX1_failingIn_30 (by decide) ?_
      refine xi_inc hx hb dX1_failingIn_31 ?_
      refine lv_istore_n (lv' := [(2, .int (nI (a + 1))), (3, .int (nI k)), (0, .ref (q 0)), (1, .int y)]) hx hb dX1_failingIn_32 rfl hl (by decide) rfl (fun ls hl => ?_)
      refine lv_iinc (k := 1) (v := nI (k + 1)) (lv' := [(3, .int (nI (k + 1))), (2, .int (nI (a + 1))), (0, .ref (q 0)), (1, .int y)]) hx hb dX1_failingIn_33 hl rfl (ii_1 _) (by decide) rfl (fun ls hl => ?_)
      refine lv_goto (tgt := 4) hx hb dX1_failingIn_36 (by decide) ?_
      exact ih4 (k + 1, a + 1) _ ⟨lv_sub hl [0, 1, 2, 3] rfl, (by omega), (by omega), hq.trans (q_ct_t hlt (by simp [hc22, hs]))⟩ (by show yn S - (k + 1) < yn S - k; omega)
    · have hc22 := kb_n0.mp hc22
      refine lv_iload_n hx hb dX1_failingIn_25 rfl (lv_at hl 1 rfl) ?_
      refine lv_goto (tgt := 32) hx hb dX1_failingIn_26 (by decide) ?_
      refine lv_istore_n (lv' := [(2, .int (nI a)), (3, .int (nI k)), (0, .ref (q 0)), (1, .int y)]) hx hb dX1_failingIn_32 rfl hl (by decide) rfl (fun ls hl => ?_)
      refine lv_iinc (k := 1) (v := nI (k + 1)) (lv' := [(3, .int (nI (k + 1))), (2, .int (nI a)), (0, .ref (q 0)), (1, .int y)]) hx hb dX1_failingIn_33 hl rfl (ii_1 _) (by decide) rfl (fun ls hl => ?_)
      refine lv_goto (tgt := 4) hx hb dX1_failingIn_36 (by decide) ?_
      exact ih4 (k + 1, a) _ ⟨lv_sub hl [0, 1, 2, 3] rfl, (by omega), (by omega), hq.trans (q_ct_f hlt (by simp [hc22, hs]))⟩ (by show yn S - (k + 1) < yn S - k; omega)

set_option maxHeartbeats 4000000 in
set_option maxRecDepth 100000 in
theorem kX1_failing (l : Launch) (D : va_G) (q : Nat → Nat) (cA : ClassId) (S : MS) (hok : okM S)  (sz : Nat) : xw_Mi l yX1_failing wsX1_failing ({ frames := 2, cells := 0, slots := 0, locals := 44 }) D vwCl [(cA, .int)] [.ref (q 0)] (wM q cA S) sz (fun (r : Int32) (u : MS) => r = nI (q_ct (fun k => !m_true (q_set (vML S) k) (yt S)) (vML S).length 0 0) ∧ u = (yk (yd S) (yn S) (ym S) (yh S) (yg S) (yt S) 0 (yse S) (ynu S) (yes S) (yel S) (ygi S))) (wM q cA) := by
  refine Met.ofW (cc := cX1_failing) (maxL := 1) (ret := (some .int)) (by decide) rfl ?_
  intro p e s m args below meth c s₁ B hml hv
  obtain ⟨rfl, hsz, hP, hK, hD0⟩ := hv
  subst hsz
  have hD := hD0.self (sz := s.heap.size)
  have hA : ∀ z, s.heap.size ≤ z → va_A (wM q cA S) s.heap.size z := fun z h => Or.inr h
  have hS : va_S (va_A (wM q cA S) s.heap.size) s.heap s.heap [] := va_S.rf
  obtain ⟨hn40, hh200, hg100⟩ := id hok
  have hx := B.exec
  have hb := B.bytes
  have hr := B.returns
  have hts := atoms_spec (ws := wsX1_failing) B.pre
  have hown : s.vm.findClass RX1 = some m.cls := findClass_of_methodNamed B.named
  have hlocks := B.notSynchronized
  have hinX1 : ∀ w ∈ u_ws RX1 TX1 12, w ∈ wsX1_failing := fun w h => List.mem_cons_of_mem _ (bw_X1 w h)
  have hf25 := hts _ (List.mem_cons_of_mem _ bw_269)
  have hf112 := hts _ (List.mem_cons_of_mem _ bw_268)
  have hl := lv_entry ([.ref (q 0)]) (n := 1) (Nat.le_of_ble_eq_true rfl)
  rw [lg_entry_eq]
  generalize (lg_sl ([.ref (q 0)]) ++ List.replicate (1 - (lg_sl ([.ref (q 0)])).length) Slot.unset).toArray = ls at hl ⊢
  have hl : lv_has ls 1 [(0, .ref (q 0))] := hl
  refine lv_aload_n hx hb dX1_failing_0 rfl (lv_at hl 0 rfl) ?_
  refine lv_iconst (v := 0) hx hb dX1_failing_1 (by decide) ?_
  refine va_put (v := .int 0) (ty := .int) hx hb hts hinX1 tyX1 tyX1_ok nmX1 hown hK hP hD hS 0 rfl rfl 11 (by decide) hf25 (fun _ h9 => h9) rfl (by decide +kernel) rfl rfl (Nat.le_of_ble_eq_true rfl) dX1_failing_2 (fun H locs hP hD hS => ?_)
  have hP : va_P D vwCl (wM q cA (yk (yd S) (yn S) (ym S) (yh S) (yg S) (yt S) 0 (yse S) (ynu S) (yes S) (yel S) (ygi S))) H := hP
  have hD : va_D _ (wM q cA (yk (yd S) (yn S) (ym S) (yh S) (yg S) (yt S) 0 (yse S) (ynu S) (yes S) (yel S) (ygi S))) := hD
  refine lv_aload_n hx hb dX1_failing_5 rfl (lv_at hl 0 rfl) ?_
  refine lv_aload_n hx hb dX1_failing_6 rfl (lv_at hl 0 rfl) ?_
  refine va_get (v := .int (yt S)) hx hb hts hinX1 hown hK hP 0 rfl rfl 10 (by decide) hf112 (fun _ h9 => h9) rfl dX1_failing_7 ?_
  refine xc_rv (As := [.int (yt S)]) (rest := []) ⟨hx, hb, hml, hown, hts⟩ (kX1_failingIn l D q cA (yk (yd S) (yn S) (ym S) (yh S) (yg S) (yt S) 0 (yse S) (ynu S) (yes S) (yel S) (ygi S)) ⟨hn40, hh200, hg100⟩ (yt S)) (cwV 1 hts (gd_V bw_360 bw_361 bw_445 bw_2 bw_362) rfl rfl rfl (by decide +kernel) ⟨Nat.le_of_ble_eq_true rfl, Nat.le_of_ble_eq_true rfl⟩) (va_recv (ci := 1) (q0 := 0) hK hP rfl rfl) hP hK rfl hl.1 rfl (Nat.le_of_ble_eq_true rfl) dX1_failing_10 ⟨Nat.zero_le _, Nat.zero_le _⟩ ?_
  have hpo : nI (q_ct (fun k => !m_true (q_set (vML (yk (yd S) (yn S) (ym S) (yh S) (yg S) (yt S) 0 (yse S) (ynu S) (yes S) (yel S) (ygi S))) k) (yt S)) (vML (yk (yd S) (yn S) (ym S) (yh S) (yg S) (yt S) 0 (yse S) (ynu S) (yes S) (yel S) (ygi S))).length 0 0) = nI (q_ct (fun k => !m_true (q_set (vML S) k) (yt S)) (vML S).length 0 0) ∧ (yk (yd S) (yn S) (ym S) (yh S) (yg S) (yt S) 0 (yse S) (ynu S) (yes S) (yel S) (ygi S)) = (yk (yd S) (yn S) (ym S) (yh S) (yg S) (yt S) 0 (yse S) (ynu S) (yes S) (yel S) (ygi S)) := ⟨rfl, rfl⟩
  exact W.iret (v := (nI (q_ct (fun k => !m_true (q_set (vML (yk (yd S) (yn S) (ym S) (yh S) (yg S) (yt S) 0 (yse S) (ynu S) (yes S) (yel S) (ygi S))) k) (yt S)) (vML (yk (yd S) (yn S) (ym S) (yh S) (yg S) (yt S) 0 (yse S) (ynu S) (yes S) (yel S) (ygi S))).length 0 0))) hx hb hr (fun t ht hW => ⟨⟨(nI (q_ct (fun k => !m_true (q_set (vML (yk (yd S) (yn S) (ym S) (yh S) (yg S) (yt S) 0 (yse S) (ynu S) (yes S) (yel S) (ygi S))) k) (yt S)) (vML (yk (yd S) (yn S) (ym S) (yh S) (yg S) (yt S) 0 (yse S) (ynu S) (yes S) (yel S) (ygi S))).length 0 0)), (yk (yd S) (yn S) (ym S) (yh S) (yg S) (yt S) 0 (yse S) (ynu S) (yes S) (yel S) (ygi S)), rfl, hpo, by rw [ht]; exact hP, va_K.moved hW.alike hK, hD⟩, hS.F ht⟩) hS.2.2 dX1_failing_13

set_option maxHeartbeats 4000000 in
set_option maxRecDepth 100000 in
theorem kX1_satisfiable (l : Launch) (D : va_G) (q : Nat → Nat) (cA : ClassId) (S : MS) (hok : okM S) (hg : g_cl (vML S)) (sz : Nat) : xw_Mi l yX1_satisfiable wsX1_satisfiable ({ frames := 2, cells := 0, slots := 0, locals := 44 }) D vwCl [(cA, .int)] [.ref (q 0)] (wM q cA S) sz (fun (r : Int32) (u : MS) => (r : Int32) = k_b (q_sat (vML S)) ∧ u = (yk (yd S) (yn S) (ym S) (yh S) (yg S) (yt S) 0 (yse S) (ynu S) (yes S) (yel S) (ygi S))) (wM q cA) := by
  refine Met.ofW (cc := cX1_satisfiable) (maxL := 2) (ret := (some .boolean)) (by decide) rfl ?_
  intro p e s m args below meth c s₁ B hml hv
  obtain ⟨rfl, hsz, hP, hK, hD0⟩ := hv
  subst hsz
  have hD := hD0.self (sz := s.heap.size)
  have hA : ∀ z, s.heap.size ≤ z → va_A (wM q cA S) s.heap.size z := fun z h => Or.inr h
  have hS : va_S (va_A (wM q cA S) s.heap.size) s.heap s.heap [] := va_S.rf
  obtain ⟨hn40, hh200, hg100⟩ := id hok
  have hx := B.exec
  have hb := B.bytes
  have hr := B.returns
  have hts := atoms_spec (ws := wsX1_satisfiable) B.pre
  have hown : s.vm.findClass RX1 = some m.cls := findClass_of_methodNamed B.named
  have hlocks := B.notSynchronized
  have hinX1 : ∀ w ∈ u_ws RX1 TX1 12, w ∈ wsX1_satisfiable := fun w h => List.mem_cons_of_mem _ (bw_X1 w h)
  have hf25 := hts _ (List.mem_cons_of_mem _ bw_269)
  have hl := lv_entry ([.ref (q 0)]) (n := 2) (Nat.le_of_ble_eq_true rfl)
  rw [lg_entry_eq]
  generalize (lg_sl ([.ref (q 0)]) ++ List.replicate (2 - (lg_sl ([.ref (q 0)])).length) Slot.unset).toArray = ls at hl ⊢
  have hl : lv_has ls 2 [(0, .ref (q 0))] := hl
  refine lv_aload_n hx hb dX1_satisfiable_0 rfl (lv_at hl 0 rfl) ?_
  refine lv_iconst (v := 0) hx hb dX1_satisfiable_1 (by decide) ?_
  refine va_put (v := .int 0) (ty := .int) hx hb hts hinX1 tyX1 tyX1_ok nmX1 hown hK hP hD hS 0 rfl rfl 11 (by decide) hf25 (fun _ h9 => h9) rfl (by decide +kernel) rfl rfl (Nat.le_of_ble_eq_true rfl) dX1_satisfiable_2 (fun H locs hP hD hS => ?_)
  have hP : va_P D vwCl (wM q cA (yk (yd S) (yn S) (ym S) (yh S) (yg S) (yt S) 0 (yse S) (ynu S) (yes S) (yel S) (ygi S))) H := hP
  have hD : va_D _ (wM q cA (yk (yd S) (yn S) (ym S) (yh S) (yg S) (yt S) 0 (yse S) (ynu S) (yes S) (yel S) (ygi S))) := hD
  refine lv_iconst (v := 0) hx hb dX1_satisfiable_5 (by decide) ?_
  refine lv_istore_n (lv' := [(1, .int 0), (0, .ref (q 0))]) hx hb dX1_satisfiable_6 rfl hl (by decide) rfl (fun ls hl => ?_)
  refine wlr (σ := Nat) (fun (j : Nat) ls => lv_has ls 2 [(1, .int (nI (2 * j))), (0, .ref (q 0))] ∧ j ≤ 1024 ∧ q_up (fun j => q_aat (vML S) (k_tl (nI (2 * j)))) (1024 - 0) 0 = q_up (fun j => q_aat (vML S) (k_tl (nI (2 * j)))) (1024 - j) j) (fun (j : Nat) => 1024 - j) 0 ⟨lv_sub hl [0, 1] rfl, (by omega), rfl⟩ ?_
  intro j ls hI ih7
  obtain ⟨hl, hk, hq⟩ := hI
  have hl : lv_has ls 2 [(1, .int (nI (2 * j))), (0, .ref (q 0))] := hl
  refine lv_iload_n hx hb dX1_satisfiable_7 rfl (lv_at hl 0 rfl) ?_
  refine lv_sipush (v := 2048) hx hb dX1_satisfiable_8 (by decide) ?_
  refine lv_icmp_ge (tgt := 30) hx hb dX1_satisfiable_11 (by decide) (fun hc11 => ?_) (fun hc11 => ?_)
  · have hge : 1024 ≤ j := by
      have z := (nI_leI (a := 2048) (by decide) (by omega)).mp hc11
      omega
    refine lv_iconst (v := 0) hx hb dX1_satisfiable_30 (by decide) ?_
    have hpo : (0 : Int32) = k_b (q_sat (vML S)) ∧ (yk (yd S) (yn S) (ym S) (yh S) (yg S) (yt S) 0 (yse S) (ynu S) (yes S) (yel S) (ygi S)) = (yk (yd S) (yn S) (ym S) (yh S) (yg S) (yt S) 0 (yse S) (ynu S) (yes S) (yel S) (ygi S)) := ⟨by rw [show q_sat (vML S) = (q_up (fun j => q_aat (vML S) (k_tl (nI (2 * j)))) (1024 - 0) 0).isSome from rfl, hq, q_up_end hge]; rfl, rfl⟩
    exact W.zret (v := 0) hx hb hr (by rfl) (fun t ht hW => ⟨⟨0, (yk (yd S) (yn S) (ym S) (yh S) (yg S) (yt S) 0 (yse S) (ynu S) (yes S) (yel S) (ygi S)), rfl, hpo, by rw [ht]; exact hP, va_K.moved hW.alike hK, hD⟩, hS.F ht⟩) hS.2.2 dX1_satisfiable_31
  · have hlt : j < 1024 := Nat.lt_of_not_le (fun z => hc11 ((nI_leI (a := 2048) (by decide) (by omega)).mpr (by omega)))
    refine lv_aload_n hx hb dX1_satisfiable_14 rfl (lv_at hl 1 rfl) ?_
    refine lv_iload_n hx hb dX1_satisfiable_15 rfl (lv_at hl 0 rfl) ?_
    refine xc_rv (As := [.int (nI (2 * j))]) (rest := []) ⟨hx, hb, hml, hown, hts⟩ (kX1_failingIn l D q cA (yk (yd S) (yn S) (ym S) (yh S) (yg S) (yt S) 0 (yse S) (ynu S) (yes S) (yel S) (ygi S)) ⟨hn40, hh200, hg100⟩ (nI (2 * j))) (cwV 1 hts (gd_V bw_360 bw_361 bw_445 bw_2 bw_362) rfl rfl rfl (by decide +kernel) ⟨Nat.le_of_ble_eq_true rfl, Nat.le_of_ble_eq_true rfl⟩) (va_recv (ci := 1) (q0 := 0) hK hP rfl rfl) hP hK rfl hl.1 rfl (Nat.le_of_ble_eq_true rfl) dX1_satisfiable_16 ⟨Nat.zero_le _, Nat.zero_le _⟩ ?_
    refine lv_if_ne (tgt := 24) hx hb dX1_satisfiable_19 (by decide) (fun hc19 => ?_) (fun hc19 => ?_)
    · have hle9 := q_ct_le (p := fun k => !m_true (q_set (vML S) k) (nI (2 * j))) (vML S).length 0 0
      have hl90 := vML_len S
      have hc19 : q_aat (vML S) (k_tl (nI (2 * j))) = false := by
        rw [← Bool.not_eq_true]
        intro z
        have z2 := (fi_aat hg (fun i z => okv_even j hlt i (bt_lt z) z)).mpr z
        exact hc19 (show nI (q_ct (fun k => !m_true (q_set (vML S) k) (nI (2 * j))) (vML S).length 0 0) = 0 by rw [z2]; rfl)
      refine lv_iinc (k := 0) (v := nI (2 * (j + 1))) (lv' := [(1, .int (nI (2 * (j + 1)))), (0, .ref (q 0))]) hx hb dX1_satisfiable_24 hl rfl (ii_2 _) (by decide) rfl (fun ls hl => ?_)
      refine lv_goto (tgt := 7) hx hb dX1_satisfiable_27 (by decide) ?_
      exact ih7 (j + 1) _ ⟨lv_sub hl [0, 1] rfl, (by omega), hq.trans (q_up_f hlt (by simp [hc19]))⟩ (by omega)
    · have hle9 := q_ct_le (p := fun k => !m_true (q_set (vML S) k) (nI (2 * j))) (vML S).length 0 0
      have hl90 := vML_len S
      have hc19 : q_aat (vML S) (k_tl (nI (2 * j))) = true := (fi_aat hg (fun i z => okv_even j hlt i (bt_lt z) z)).mp ((nI_eq (b := 0) (by omega) (by decide)).mp hc19)
      refine lv_iconst (v := 1) hx hb dX1_satisfiable_22 (by decide) ?_
      have hpo : (1 : Int32) = k_b (q_sat (vML S)) ∧ (yk (yd S) (yn S) (ym S) (yh S) (yg S) (yt S) 0 (yse S) (ynu S) (yes S) (yel S) (ygi S)) = (yk (yd S) (yn S) (ym S) (yh S) (yg S) (yt S) 0 (yse S) (ynu S) (yes S) (yel S) (ygi S)) := ⟨by rw [show q_sat (vML S) = (q_up (fun j => q_aat (vML S) (k_tl (nI (2 * j)))) (1024 - 0) 0).isSome from rfl, hq, q_up_t hlt hc19]; rfl, rfl⟩
      exact W.zret (v := 1) hx hb hr (by rfl) (fun t ht hW => ⟨⟨1, (yk (yd S) (yn S) (ym S) (yh S) (yg S) (yt S) 0 (yse S) (ynu S) (yes S) (yel S) (ygi S)), rfl, hpo, by rw [ht]; exact hP, va_K.moved hW.alike hK, hD⟩, hS.F ht⟩) hS.2.2 dX1_satisfiable_23

set_option maxHeartbeats 4000000 in
set_option maxRecDepth 100000 in
theorem kX1_unmet (l : Launch) (D : va_G) (q : Nat → Nat) (cA : ClassId) (S : MS) (hok : okM S)  (sz : Nat) : xw_Mi l yX1_unmet wsX1_unmet ({ frames := 1, cells := 0, slots := 0, locals := 21 }) D vwCl [(cA, .int)] [.ref (q 0)] (wM q cA S) sz (fun (r : Int32) (u : MS) => r = nI (q_ct (fun k => !m_true (ygi S k) (yt S)) (yg S) 0 0) ∧ u = (yk (yd S) (yn S) (ym S) (yh S) (yg S) (yt S) 0 (yse S) (ynu S) (yes S) (yel S) (ygi S))) (wM q cA) := by
  refine Met.ofW (cc := cX1_unmet) (maxL := 3) (ret := (some .int)) (by decide) rfl ?_
  intro p e s m args below meth c s₁ B hml hv
  obtain ⟨rfl, hsz, hP, hK, hD0⟩ := hv
  subst hsz
  have hD := hD0.self (sz := s.heap.size)
  have hA : ∀ z, s.heap.size ≤ z → va_A (wM q cA S) s.heap.size z := fun z h => Or.inr h
  have hS : va_S (va_A (wM q cA S) s.heap.size) s.heap s.heap [] := va_S.rf
  obtain ⟨hn40, hh200, hg100⟩ := id hok
  have hx := B.exec
  have hb := B.bytes
  have hr := B.returns
  have hts := atoms_spec (ws := wsX1_unmet) B.pre
  have hown : s.vm.findClass RX1 = some m.cls := findClass_of_methodNamed B.named
  have hlocks := B.notSynchronized
  have hinX1 : ∀ w ∈ u_ws RX1 TX1 12, w ∈ wsX1_unmet := fun w h => List.mem_cons_of_mem _ (bw_X1 w h)
  have hf22 := hts _ (List.mem_cons_of_mem _ bw_267)
  have hf25 := hts _ (List.mem_cons_of_mem _ bw_269)
  have hf59 := hts _ (List.mem_cons_of_mem _ bw_266)
  have hf112 := hts _ (List.mem_cons_of_mem _ bw_268)
  have hl := lv_entry ([.ref (q 0)]) (n := 3) (Nat.le_of_ble_eq_true rfl)
  rw [lg_entry_eq]
  generalize (lg_sl ([.ref (q 0)]) ++ List.replicate (3 - (lg_sl ([.ref (q 0)])).length) Slot.unset).toArray = ls at hl ⊢
  have hl : lv_has ls 3 [(0, .ref (q 0))] := hl
  refine lv_aload_n hx hb dX1_unmet_0 rfl (lv_at hl 0 rfl) ?_
  refine lv_iconst (v := 0) hx hb dX1_unmet_1 (by decide) ?_
  refine va_put (v := .int 0) (ty := .int) hx hb hts hinX1 tyX1 tyX1_ok nmX1 hown hK hP hD hS 0 rfl rfl 11 (by decide) hf25 (fun _ h9 => h9) rfl (by decide +kernel) rfl rfl (Nat.le_of_ble_eq_true rfl) dX1_unmet_2 (fun H locs hP hD hS => ?_)
  have hP : va_P D vwCl (wM q cA (yk (yd S) (yn S) (ym S) (yh S) (yg S) (yt S) 0 (yse S) (ynu S) (yes S) (yel S) (ygi S))) H := hP
  have hD : va_D _ (wM q cA (yk (yd S) (yn S) (ym S) (yh S) (yg S) (yt S) 0 (yse S) (ynu S) (yes S) (yel S) (ygi S))) := hD
  refine lv_iconst (v := 0) hx hb dX1_unmet_5 (by decide) ?_
  refine lv_istore_n (lv' := [(1, .int 0), (0, .ref (q 0))]) hx hb dX1_unmet_6 rfl hl (by decide) rfl (fun ls hl => ?_)
  refine lv_iconst (v := 0) hx hb dX1_unmet_7 (by decide) ?_
  refine lv_istore_n (lv' := [(2, .int 0), (1, .int 0), (0, .ref (q 0))]) hx hb dX1_unmet_8 rfl hl (by decide) rfl (fun ls hl => ?_)
  refine wlr (σ := Nat × Nat) (fun (x9 : Nat × Nat) ls => match x9 with | (k, a) => lv_has ls 3 [(2, .int (nI k)), (1, .int (nI a)), (0, .ref (q 0))] ∧ k ≤ yg S ∧ a ≤ k ∧ q_ct (fun k => !m_true (ygi S k) (yt S)) (yg S - 0) 0 0 = q_ct (fun k => !m_true (ygi S k) (yt S)) (yg S - k) k a) (fun (x9 : Nat × Nat) => match x9 with | (k, a) => yg S - k) (0, 0) ⟨lv_sub hl [0, 1, 2] rfl, (Nat.zero_le _), (Nat.zero_le _), rfl⟩ ?_
  intro x9 ls hI ih9
  obtain ⟨k, a⟩ := x9
  obtain ⟨hl, hk, ha, hq⟩ := hI
  have hl : lv_has ls 3 [(2, .int (nI k)), (1, .int (nI a)), (0, .ref (q 0))] := hl
  refine lv_iload_n hx hb dX1_unmet_9 rfl (lv_at hl 0 rfl) ?_
  refine lv_aload_n hx hb dX1_unmet_10 rfl (lv_at hl 2 rfl) ?_
  refine va_get (v := .int (nI (yg S))) hx hb hts hinX1 hown hK hP 0 rfl rfl 8 (by decide) hf59 (fun _ h9 => h9) rfl dX1_unmet_11 ?_
  refine lv_icmp_ge (tgt := 47) hx hb dX1_unmet_14 (by decide) (fun hc14 => ?_) (fun hc14 => ?_)
  · have hge : yg S ≤ k := (nI_leI (by omega) (by omega)).mp hc14
    refine lv_iload_n hx hb dX1_unmet_47 rfl (lv_at hl 1 rfl) ?_
    have hpo : nI a = nI (q_ct (fun k => !m_true (ygi S k) (yt S)) (yg S) 0 0) ∧ (yk (yd S) (yn S) (ym S) (yh S) (yg S) (yt S) 0 (yse S) (ynu S) (yes S) (yel S) (ygi S)) = (yk (yd S) (yn S) (ym S) (yh S) (yg S) (yt S) 0 (yse S) (ynu S) (yes S) (yel S) (ygi S)) := ⟨by rw [show q_ct (fun k => !m_true (ygi S k) (yt S)) (yg S) 0 0 = q_ct (fun k => !m_true (ygi S k) (yt S)) (yg S - 0) 0 0 from rfl, hq, q_ct_end hge], rfl⟩
    exact W.iret (v := (nI a)) hx hb hr (fun t ht hW => ⟨⟨(nI a), (yk (yd S) (yn S) (ym S) (yh S) (yg S) (yt S) 0 (yse S) (ynu S) (yes S) (yel S) (ygi S)), rfl, hpo, by rw [ht]; exact hP, va_K.moved hW.alike hK, hD⟩, hS.F ht⟩) hS.2.2 dX1_unmet_48
  · have hlt : k < yg S := Nat.lt_of_not_le (fun z => hc14 ((nI_leI (by omega) (by omega)).mpr z))
    refine lv_aload_n hx hb dX1_unmet_17 rfl (lv_at hl 2 rfl) ?_
    refine va_get (v := .ref (q 5)) hx hb hts hinX1 hown hK hP 0 rfl rfl 9 (by decide) hf22 (fun _ h9 => h9) rfl dX1_unmet_18 ?_
    refine lv_iload_n hx hb dX1_unmet_21 rfl (lv_at hl 0 rfl) ?_
    refine xa_ld hx hb hK hP 5 0 rfl rfl k (by omega) (by first | decide | assumption) dX1_unmet_22 ?_
    refine lv_aload_n hx hb dX1_unmet_23 rfl (lv_at hl 2 rfl) ?_
    refine va_get (v := .int (yt S)) hx hb hts hinX1 hown hK hP 0 rfl rfl 10 (by decide) hf112 (fun _ h9 => h9) rfl dX1_unmet_24 ?_
    refine xc_s (As := [.int ((ygi S) k), .int (yt S)]) (rest := []) ⟨hx, hb, hml, hown, hts⟩ (kX1_isTrue l ((ygi S) k) (yt S)) (va_cwS 2 hts (gd_S bw_363 bw_364 bw_2 bw_365) rfl rfl rfl (by decide +kernel) ⟨Nat.le_of_ble_eq_true rfl, Nat.le_of_ble_eq_true rfl⟩) rfl hl.1 rfl (Nat.le_of_ble_eq_true rfl) dX1_unmet_27 ⟨Nat.zero_le _, Nat.zero_le _⟩ ?_
    refine lv_if_eq (tgt := 37) hx hb dX1_unmet_30 (by decide) (fun hc30 => ?_) (fun hc30 => ?_)
    · have hc30 := kb_0.mp hc30
      refine lv_iload_n hx hb dX1_unmet_37 rfl (lv_at hl 1 rfl) ?_
      refine lv_iconst (v := 1) hx hb dX1_unmet_38 (by decide) ?_
      refine xi_inc hx hb dX1_unmet_39 ?_
      refine lv_istore_n (lv' := [(1, .int (nI (a + 1))), (2, .int (nI k)), (0, .ref (q 0))]) hx hb dX1_unmet_40 rfl hl (by decide) rfl (fun ls hl => ?_)
      refine lv_iinc (k := 1) (v := nI (k + 1)) (lv' := [(2, .int (nI (k + 1))), (1, .int (nI (a + 1))), (0, .ref (q 0))]) hx hb dX1_unmet_41 hl rfl (ii_1 _) (by decide) rfl (fun ls hl => ?_)
      refine lv_goto (tgt := 9) hx hb dX1_unmet_44 (by decide) ?_
      exact ih9 (k + 1, a + 1) _ ⟨lv_sub hl [0, 1, 2] rfl, (by omega), (by omega), hq.trans (q_ct_t hlt (by simp [hc30]))⟩ (by show yg S - (k + 1) < yg S - k; omega)
    · have hc30 := kb_n0.mp hc30
      refine lv_iload_n hx hb dX1_unmet_33 rfl (lv_at hl 1 rfl) ?_
      refine lv_goto (tgt := 40) hx hb dX1_unmet_34 (by decide) ?_
      refine lv_istore_n (lv' := [(1, .int (nI a)), (2, .int (nI k)), (0, .ref (q 0))]) hx hb dX1_unmet_40 rfl hl (by decide) rfl (fun ls hl => ?_)
      refine lv_iinc (k := 1) (v := nI (k + 1)) (lv' := [(2, .int (nI (k + 1))), (1, .int (nI a)), (0, .ref (q 0))]) hx hb dX1_unmet_41 hl rfl (ii_1 _) (by decide) rfl (fun ls hl => ?_)
      refine lv_goto (tgt := 9) hx hb dX1_unmet_44 (by decide) ?_
      exact ih9 (k + 1, a) _ ⟨lv_sub hl [0, 1, 2] rfl, (by omega), (by omega), hq.trans (q_ct_f hlt (by simp [hc30]))⟩ (by show yg S - (k + 1) < yg S - k; omega)

set_option maxHeartbeats 4000000 in
set_option maxRecDepth 100000 in
theorem kX1_extend (l : Launch) (D : va_G) (q : Nat → Nat) (cA : ClassId) (S : MS) (hok : okM S) (hgT : g_st (vMR S)) (ht : k_okv (yt S)) (sz : Nat) : xw_Mi l yX1_extend wsX1_extend ({ frames := 1, cells := 0, slots := 0, locals := 21 }) D vwCl [(cA, .int)] [.ref (q 0)] (wM q cA S) sz (fun (r : Int32) (u : MS) => r = nI (q_ext (vMT S) (yh S) (yt S) 0).1 ∧ u = (yk (yd S) (yn S) (ym S) (yh S) (yg S) ((q_ext (vMT S) (yh S) (yt S) 0).2) 0 (yse S) (ynu S) (yes S) (yel S) (ygi S))) (wM q cA) := by
  refine Met.ofW (cc := cX1_extend) (maxL := 3) (ret := (some .int)) (by decide) rfl ?_
  intro p e s m args below meth c s₁ B hml hv
  obtain ⟨rfl, hsz, hP, hK, hD0⟩ := hv
  subst hsz
  have hD := hD0.self (sz := s.heap.size)
  have hA : ∀ z, s.heap.size ≤ z → va_A (wM q cA S) s.heap.size z := fun z h => Or.inr h
  have hS : va_S (va_A (wM q cA S) s.heap.size) s.heap s.heap [] := va_S.rf
  obtain ⟨hn40, hh200, hg100⟩ := id hok
  have hx := B.exec
  have hb := B.bytes
  have hr := B.returns
  have hts := atoms_spec (ws := wsX1_extend) B.pre
  have hown : s.vm.findClass RX1 = some m.cls := findClass_of_methodNamed B.named
  have hlocks := B.notSynchronized
  have hinX1 : ∀ w ∈ u_ws RX1 TX1 12, w ∈ wsX1_extend := fun w h => List.mem_cons_of_mem _ (bw_X1 w h)
  have hf16 := hts _ (List.mem_cons_of_mem _ bw_264)
  have hf19 := hts _ (List.mem_cons_of_mem _ bw_265)
  have hf25 := hts _ (List.mem_cons_of_mem _ bw_269)
  have hf65 := hts _ (List.mem_cons_of_mem _ bw_263)
  have hf112 := hts _ (List.mem_cons_of_mem _ bw_268)
  have hl := lv_entry ([.ref (q 0)]) (n := 3) (Nat.le_of_ble_eq_true rfl)
  rw [lg_entry_eq]
  generalize (lg_sl ([.ref (q 0)]) ++ List.replicate (3 - (lg_sl ([.ref (q 0)])).length) Slot.unset).toArray = ls at hl ⊢
  have hl : lv_has ls 3 [(0, .ref (q 0))] := hl
  refine lv_aload_n hx hb dX1_extend_0 rfl (lv_at hl 0 rfl) ?_
  refine lv_iconst (v := 0) hx hb dX1_extend_1 (by decide) ?_
  refine va_put (v := .int 0) (ty := .int) hx hb hts hinX1 tyX1 tyX1_ok nmX1 hown hK hP hD hS 0 rfl rfl 11 (by decide) hf25 (fun _ h9 => h9) rfl (by decide +kernel) rfl rfl (Nat.le_of_ble_eq_true rfl) dX1_extend_2 (fun H locs hP hD hS => ?_)
  have hP : va_P D vwCl (wM q cA (yk (yd S) (yn S) (ym S) (yh S) (yg S) (yt S) 0 (yse S) (ynu S) (yes S) (yel S) (ygi S))) H := hP
  have hD : va_D _ (wM q cA (yk (yd S) (yn S) (ym S) (yh S) (yg S) (yt S) 0 (yse S) (ynu S) (yes S) (yel S) (ygi S))) := hD
  refine lv_iconst (v := 0) hx hb dX1_extend_5 (by decide) ?_
  refine lv_istore_n (lv' := [(1, .int 0), (0, .ref (q 0))]) hx hb dX1_extend_6 rfl hl (by decide) rfl (fun ls hl => ?_)
  refine lv_aload_n hx hb dX1_extend_7 rfl (lv_at hl 1 rfl) ?_
  refine va_get (v := .int (nI (yh S))) hx hb hts hinX1 hown hK hP 0 rfl rfl 5 (by decide) hf65 (fun _ h9 => h9) rfl dX1_extend_8 ?_
  refine lv_iconst (v := 1) hx hb dX1_extend_11 (by decide) ?_
  refine xi_dec hx hb dX1_extend_12 ?_
  refine lv_istore_n (lv' := [(2, .int (nP (yh S))), (1, .int 0), (0, .ref (q 0))]) hx hb dX1_extend_13 rfl hl (by decide) rfl (fun ls hl => ?_)
  refine wlw (σ := Nat × Nat × Int32) (fun (x9 : Nat × Nat × Int32) (H : Heap) (locs : List Loc) ls => match x9 with | (j, a, t9) => lv_has ls 3 [(2, .int (nP j)), (1, .int (nI a)), (0, .ref (q 0))] ∧ va_P D vwCl (wM q cA (yk (yd S) (yn S) (ym S) (yh S) (yg S) t9 0 (yse S) (ynu S) (yes S) (yel S) (ygi S))) H ∧ va_D (va_A (wM q cA S) s.heap.size) (wM q cA (yk (yd S) (yn S) (ym S) (yh S) (yg S) t9 0 (yse S) (ynu S) (yes S) (yel S) (ygi S))) ∧ va_S (va_A (wM q cA S) s.heap.size) s.heap H locs ∧ j ≤ yh S ∧ a + j ≤ yh S ∧ k_okv t9 ∧ q_ext (vMT S) (yh S) (yt S) 0 = q_ext (vMT S) j t9 a) (fun (x9 : Nat × Nat × Int32) => match x9 with | (j, a, t9) => j) (yh S, 0, yt S) ⟨lv_sub hl [0, 1, 2] rfl, hP, hD, hS, (Nat.le_refl _), (by omega), ht, rfl⟩ ?_
  intro x9 H locs ls hI ih14
  obtain ⟨j, a, t9⟩ := x9
  obtain ⟨hl, hP, hD, hS, hj, ha, ht9, hq⟩ := hI
  have hl : lv_has ls 3 [(2, .int (nP j)), (1, .int (nI a)), (0, .ref (q 0))] := hl
  refine lv_iload_n hx hb dX1_extend_14 rfl (lv_at hl 0 rfl) ?_
  refine lv_if_lt (tgt := 53) hx hb dX1_extend_15 (by decide) (fun hc15 => ?_) (fun hc15 => ?_)
  · have hj0 : j = 0 := (nP_lt0 (by omega)).mp hc15
    refine lv_iload_n hx hb dX1_extend_53 rfl (lv_at hl 1 rfl) ?_
    have hpo : nI a = nI (q_ext (vMT S) (yh S) (yt S) 0).1 ∧ (yk (yd S) (yn S) (ym S) (yh S) (yg S) t9 0 (yse S) (ynu S) (yes S) (yel S) (ygi S)) = (yk (yd S) (yn S) (ym S) (yh S) (yg S) ((q_ext (vMT S) (yh S) (yt S) 0).2) 0 (yse S) (ynu S) (yes S) (yel S) (ygi S)) := ⟨by rw [hq, hj0]; rfl, by rw [hq, hj0]; rfl⟩
    exact W.iret (v := (nI a)) hx hb hr (fun t ht hW => ⟨⟨(nI a), (yk (yd S) (yn S) (ym S) (yh S) (yg S) t9 0 (yse S) (ynu S) (yes S) (yel S) (ygi S)), rfl, hpo, by rw [ht]; exact hP, va_K.moved hW.alike hK, hD⟩, hS.F ht⟩) hS.2.2 dX1_extend_54
  · obtain ⟨i, rfl⟩ : ∃ i, j = i + 1 := ⟨j - 1, by have z : ¬ j = 0 := fun z => hc15 ((nP_lt0 (by omega)).mpr z); omega⟩
    have hl : lv_has ls 3 [(2, .int (nI i)), (1, .int (nI a)), (0, .ref (q 0))] := by rw [nP_s] at hl; exact hl
    have hs := vMT_at (S := S) (i := i) (by omega)
    have gi := g_st_at hgT (i := i) (by omega)
    refine lv_aload_n hx hb dX1_extend_18 rfl (lv_at hl 2 rfl) ?_
    refine va_get (v := .ref (q 3)) hx hb hts hinX1 hown hK hP 0 rfl rfl 6 (by decide) hf16 (fun _ h9 => h9) rfl dX1_extend_19 ?_
    refine lv_iload_n hx hb dX1_extend_22 rfl (lv_at hl 0 rfl) ?_
    refine xa_ld hx hb hK hP 3 0 rfl rfl i (by omega) (by first | decide | assumption) dX1_extend_23 ?_
    refine lv_aload_n hx hb dX1_extend_24 rfl (lv_at hl 2 rfl) ?_
    refine va_get (v := .int t9) hx hb hts hinX1 hown hK hP 0 rfl rfl 10 (by decide) hf112 (fun _ h9 => h9) rfl dX1_extend_25 ?_
    refine xc_s (As := [.int ((yes S) i), .int t9]) (rest := []) ⟨hx, hb, hml, hown, hts⟩ (kX1_isTrue l ((yes S) i) t9) (va_cwS 2 hts (gd_S bw_363 bw_364 bw_2 bw_365) rfl rfl rfl (by decide +kernel) ⟨Nat.le_of_ble_eq_true rfl, Nat.le_of_ble_eq_true rfl⟩) rfl hl.1 rfl (Nat.le_of_ble_eq_true rfl) dX1_extend_28 ⟨Nat.zero_le _, Nat.zero_le _⟩ ?_
    refine lv_if_ne (tgt := 47) hx hb dX1_extend_31 (by decide) (fun hc31 => ?_) (fun hc31 => ?_)
    · have hc31 : ¬ yes S i &&& k_tl t9 = 0 := fun z => absurd ((mtrue_f gi.1 ht9).mpr z) (by rw [kb_n0.mp hc31]; decide)
      refine lv_iinc (k := 0) (v := nP i) (lv' := [(2, .int (nP i)), (1, .int (nI a)), (0, .ref (q 0))]) hx hb dX1_extend_47 hl rfl (ii_p _) (by decide) rfl (fun ls hl => ?_)
      refine lv_goto (tgt := 14) hx hb dX1_extend_50 (by decide) ?_
      exact ih14 (i, a, t9) _ _ _ ⟨lv_sub hl [0, 1, 2] rfl, hP, hD, hS, (by omega), (by omega), ht9, (by rw [hq, ext_f (by rw [hs.1]; exact hc31)])⟩ (by show i < i + 1; omega)
    · have hc31 : yes S i &&& k_tl t9 = 0 := (mtrue_f gi.1 ht9).mp (kb_0.mp hc31)
      refine lv_aload_n hx hb dX1_extend_34 rfl (lv_at hl 2 rfl) ?_
      refine lv_aload_n hx hb dX1_extend_35 rfl (lv_at hl 2 rfl) ?_
      refine va_get (v := .ref (q 4)) hx hb hts hinX1 hown hK hP 0 rfl rfl 7 (by decide) hf19 (fun _ h9 => h9) rfl dX1_extend_36 ?_
      refine lv_iload_n hx hb dX1_extend_39 rfl (lv_at hl 0 rfl) ?_
      refine xa_ld hx hb hK hP 4 0 rfl rfl i (by omega) (by first | decide | assumption) dX1_extend_40 ?_
      refine xc_wv (As := [.int ((yel S) i)]) (rest := []) ⟨hx, hb, hml, hown, hts⟩ (kX1_put l D q cA (yk (yd S) (yn S) (ym S) (yh S) (yg S) t9 0 (yse S) (ynu S) (yes S) (yel S) (ygi S)) ⟨hn40, hh200, hg100⟩ ((yel S) i) _) (cwV 1 hts (gd_V bw_390 bw_391 bw_446 bw_2 bw_392) rfl rfl rfl (by decide +kernel) ⟨Nat.le_of_ble_eq_true rfl, Nat.le_of_ble_eq_true rfl⟩) (va_recv (ci := 1) (q0 := 0) hK hP rfl rfl) hP hK hD hS hA rfl hl.1 rfl (Nat.le_of_ble_eq_true rfl) dX1_extend_41 ⟨Nat.zero_le _, Nat.zero_le _⟩ (fun u1 H locs hu1 hP hD hS => ?_)
      have hP : va_P D vwCl (wM q cA (yk (yd S) (yn S) (ym S) (yh S) (yg S) (m_put t9 (yel S i)) 0 (yse S) (ynu S) (yes S) (yel S) (ygi S))) H := by rw [hu1] at hP; exact hP
      have hD : va_D (va_A (wM q cA S) s.heap.size) (wM q cA (yk (yd S) (yn S) (ym S) (yh S) (yg S) (m_put t9 (yel S i)) 0 (yse S) (ynu S) (yes S) (yel S) (ygi S))) := by rw [hu1] at hD; exact hD
      refine lv_iinc (k := 1) (v := nI (a + 1)) (lv' := [(1, .int (nI (a + 1))), (2, .int (nI i)), (0, .ref (q 0))]) hx hb dX1_extend_44 hl rfl (ii_1 _) (by decide) rfl (fun ls hl => ?_)
      refine lv_iinc (k := 1) (v := nP i) (lv' := [(2, .int (nP i)), (1, .int (nI (a + 1))), (0, .ref (q 0))]) hx hb dX1_extend_47 hl rfl (ii_p _) (by decide) rfl (fun ls hl => ?_)
      refine lv_goto (tgt := 14) hx hb dX1_extend_50 (by decide) ?_
      exact ih14 (i, a + 1, m_put t9 (yel S i)) _ _ _ ⟨lv_sub hl [0, 1, 2] rfl, hP, hD, hS, (by omega), (by omega), (by rw [put_mt gi.2]; exact okv_mt ht9 gi.2), (by rw [hq, ext_t (by rw [hs.1]; exact hc31), hs.2, put_mt gi.2])⟩ (by show i < i + 1; omega)
