/-! The class: methods that only read. -/
set_option maxHeartbeats 4000000 in
set_option maxRecDepth 100000 in
theorem kX0_find (l : Launch) (D : va_G) (cA : ClassId) (a NN n : Nat) (f : Nat → Int32) (x : Int32) (hn : n ≤ NN) (hN : NN < 2 ^ 31) : xr_M l yX0_find wsX0_find ({ frames := 0, cells := 0, slots := 0, locals := 0 }) D vwCl [(cA, .int)] [.ref a, .int (nI n), .int x] [(a, .inl (cA, NN, .inl f))] (q_idx (q_up (fun k => f k == x) n 0)) := by
  refine Met.ofW (cc := cX0_find) (maxL := 4) (ret := (some .int)) (by decide) rfl ?_
  intro p e s m args below meth c s₁ B hml hv
  obtain ⟨rfl, hP, hK⟩ := hv
  have hx := B.exec
  have hb := B.bytes
  have hr := B.returns
  have hts := atoms_spec (ws := wsX0_find) B.pre
  have hown : s.vm.findClass RX0 = some m.cls := findClass_of_methodNamed B.named
  have hlocks := B.notSynchronized
  have hl := lv_entry ([.ref a, .int (nI n), .int x]) (n := 4) (Nat.le_of_ble_eq_true rfl)
  rw [lg_entry_eq]
  generalize (lg_sl ([.ref a, .int (nI n), .int x]) ++ List.replicate (4 - (lg_sl ([.ref a, .int (nI n), .int x])).length) Slot.unset).toArray = ls at hl ⊢
  have hl : lv_has ls 4 [(0, .ref a), (1, .int (nI n)), (2, .int x)] := hl
  refine lv_iconst (v := 0) hx hb dX0_find_0 (by decide) ?_
  refine lv_istore_n (lv' := [(3, .int 0), (0, .ref a), (1, .int (nI n)), (2, .int x)]) hx hb dX0_find_1 rfl hl (by decide) rfl (fun ls hl => ?_)
  refine wlr (σ := Nat) (fun (k : Nat) ls => lv_has ls 4 [(3, .int (nI k)), (0, .ref a), (1, .int (nI n)), (2, .int x)] ∧ k ≤ n ∧ q_up (fun k => f k == x) (n - 0) 0 = q_up (fun k => f k == x) (n - k) k) (fun (k : Nat) => n - k) 0 ⟨lv_sub hl [0, 1, 2, 3] rfl, (by omega), rfl⟩ ?_
  intro k ls hI ih2
  obtain ⟨hl, hk, hq⟩ := hI
  have hl : lv_has ls 4 [(3, .int (nI k)), (0, .ref a), (1, .int (nI n)), (2, .int x)] := hl
  refine lv_iload_n hx hb dX0_find_2 rfl (lv_at hl 0 rfl) ?_
  refine lv_iload_n hx hb dX0_find_3 rfl (lv_at hl 2 rfl) ?_
  refine lv_icmp_ge (tgt := 22) hx hb dX0_find_4 (by decide) (fun hc4 => ?_) (fun hc4 => ?_)
  · have hge : n ≤ k := (nI_leI (by omega) (by omega)).mp hc4
    refine lv_iconst (v := (-1)) hx hb dX0_find_22 (by decide) ?_
    have hv9 : q_idx (q_up (fun k => f k == x) n 0) = (-1) := by rw [show q_up (fun k => f k == x) n 0 = q_up (fun k => f k == x) (n - 0) 0 from rfl, hq, q_up_end hge]; rfl
    exact W.iret (v := (-1)) hx hb hr (fun t ht hW => ⟨by rw [hv9], ht⟩) (fun _ h => nomatch h) dX0_find_23
  · have hlt : k < n := Nat.lt_of_not_le (fun z => hc4 ((nI_leI (by omega) (by omega)).mpr z))
    refine lv_aload_n hx hb dX0_find_7 rfl (lv_at hl 1 rfl) ?_
    refine lv_iload_n hx hb dX0_find_8 rfl (lv_at hl 0 rfl) ?_
    refine xa_ld hx hb hK hP 0 0 rfl rfl k (by omega) (by first | decide | assumption) dX0_find_9 ?_
    refine lv_iload_n hx hb dX0_find_10 rfl (lv_at hl 3 rfl) ?_
    refine lv_icmp_ne (tgt := 16) hx hb dX0_find_11 (by decide) (fun hc11 => ?_) (fun hc11 => ?_)
    · refine lv_iinc (k := 0) (v := nI (k + 1)) (lv' := [(3, .int (nI (k + 1))), (0, .ref a), (1, .int (nI n)), (2, .int x)]) hx hb dX0_find_16 hl rfl (ii_1 _) (by decide) rfl (fun ls hl => ?_)
      refine lv_goto (tgt := 2) hx hb dX0_find_19 (by decide) ?_
      exact ih2 (k + 1) _ ⟨lv_sub hl [0, 1, 2, 3] rfl, (by omega), hq.trans (q_up_f hlt (by simp [hc11]))⟩ (by omega)
    · refine lv_iload_n hx hb dX0_find_14 rfl (lv_at hl 0 rfl) ?_
      have hv9 : q_idx (q_up (fun k => f k == x) n 0) = nI k := by rw [show q_up (fun k => f k == x) n 0 = q_up (fun k => f k == x) (n - 0) 0 from rfl, hq, q_up_t hlt (by simp [hc11])]; rfl
      exact W.iret (v := (nI k)) hx hb hr (fun t ht hW => ⟨by rw [hv9], ht⟩) (fun _ h => nomatch h) dX0_find_15

set_option maxHeartbeats 4000000 in
set_option maxRecDepth 100000 in
theorem kX0_canBeMade (l : Launch) (D : va_G) (q : Nat → Nat) (cA : ClassId) (S : XS) (hok : okX S) (x : Int32) : xr_M l yX0_canBeMade wsX0_canBeMade ({ frames := 1, cells := 0, slots := 0, locals := 23 }) D vwCl [(cA, .int)] [.ref (q 0), .int x] (wX q cA S) (k_b (q_can (vXL S) x)) := by
  refine Met.ofW (cc := cX0_canBeMade) (maxL := 2) (ret := (some .boolean)) (by decide) rfl ?_
  intro p e s m args below meth c s₁ B hml hv
  obtain ⟨rfl, hP, hK⟩ := hv
  obtain ⟨hn40, hh200, hg100⟩ := id hok
  have hx := B.exec
  have hb := B.bytes
  have hr := B.returns
  have hts := atoms_spec (ws := wsX0_canBeMade) B.pre
  have hown : s.vm.findClass RX0 = some m.cls := findClass_of_methodNamed B.named
  have hlocks := B.notSynchronized
  have hinX0 : ∀ w ∈ u_ws RX0 TX0 12, w ∈ wsX0_canBeMade := fun w h => List.mem_cons_of_mem _ (bw_X0 w h)
  have hf9 := hts _ (List.mem_cons_of_mem _ bw_21)
  have hf58 := hts _ (List.mem_cons_of_mem _ bw_23)
  have hl := lv_entry ([.ref (q 0), .int x]) (n := 2) (Nat.le_of_ble_eq_true rfl)
  rw [lg_entry_eq]
  generalize (lg_sl ([.ref (q 0), .int x]) ++ List.replicate (2 - (lg_sl ([.ref (q 0), .int x])).length) Slot.unset).toArray = ls at hl ⊢
  have hl : lv_has ls 2 [(0, .ref (q 0)), (1, .int x)] := hl
  refine lv_iload_n hx hb dX0_canBeMade_0 rfl (lv_at hl 1 rfl) ?_
  refine xc_s (As := [.int x]) (rest := []) ⟨hx, hb, hml, hown, hts⟩ (kX0_isTautology l x) (va_cwS 1 hts (gd_S bw_119 bw_120 bw_1 bw_121) rfl rfl rfl (by decide +kernel) ⟨Nat.le_of_ble_eq_true rfl, Nat.le_of_ble_eq_true rfl⟩) rfl hl.1 rfl (Nat.le_of_ble_eq_true rfl) dX0_canBeMade_1 ⟨Nat.zero_le _, Nat.zero_le _⟩ ?_
  refine lv_if_ne (tgt := 27) hx hb dX0_canBeMade_4 (by decide) (fun hc4 => ?_) (fun hc4 => ?_)
  · have h1 : k_taut x = true := kb_n0.mp hc4
    refine lv_iconst (v := 0) hx hb dX0_canBeMade_27 (by decide) ?_
    have hv9 : k_b (q_can (vXL S) x) = 0 := by simp [k_b, q_can, h1]
    exact W.zret (v := 0) hx hb hr (by rfl) (fun t ht hW => ⟨by rw [hv9], ht⟩) (fun _ h => nomatch h) dX0_canBeMade_28
  · have h1 : k_taut x = false := kb_0.mp hc4
    refine lv_aload_n hx hb dX0_canBeMade_7 rfl (lv_at hl 0 rfl) ?_
    refine va_get (v := .ref (q 1)) hx hb hts hinX0 hown hK hP 0 rfl rfl 2 (by decide) hf9 (fun _ h9 => h9) rfl dX0_canBeMade_8 ?_
    refine lv_aload_n hx hb dX0_canBeMade_11 rfl (lv_at hl 0 rfl) ?_
    refine va_get (v := .int (nI (xn S))) hx hb hts hinX0 hown hK hP 0 rfl rfl 4 (by decide) hf58 (fun _ h9 => h9) rfl dX0_canBeMade_12 ?_
    refine lv_iload_n hx hb dX0_canBeMade_15 rfl (lv_at hl 1 rfl) ?_
    refine xc_rs (w0 := [(q 1, .inl (cA, 40, .inl (xse S)))]) (As := [.ref (q 1), .int (nI (xn S)), .int x]) (rest := []) ⟨hx, hb, hml, hown, hts⟩ (kX0_find l D cA (q 1) 40 (xn S) (xse S) x (by omega) (by decide)) (va_cwS 3 hts (gd_S bw_122 bw_123 bw_1 bw_124) rfl rfl rfl (by decide +kernel) ⟨Nat.le_of_ble_eq_true rfl, Nat.le_of_ble_eq_true rfl⟩) (hP.sub [1] rfl) hK rfl hl.1 rfl (Nat.le_of_ble_eq_true rfl) dX0_canBeMade_16 ⟨Nat.zero_le _, Nat.zero_le _⟩ ?_
    refine lv_iconst (v := (-1)) hx hb dX0_canBeMade_19 (by decide) ?_
    refine lv_icmp_ne (tgt := 27) hx hb dX0_canBeMade_20 (by decide) (fun hc20 => ?_) (fun hc20 => ?_)
    · have h2 : (q_find (vXL S) x).isNone = false := by
        rw [q_find_of _ _ (xnu S), q_find_m1 (by rw [cl_of_len]; omega)] at hc20
        exact Option.isNone_eq_false_iff.mpr (Option.isSome_iff_ne_none.mpr hc20)
      refine lv_iconst (v := 0) hx hb dX0_canBeMade_27 (by decide) ?_
      have hv9 : k_b (q_can (vXL S) x) = 0 := by simp [k_b, q_can, h1, h2]
      exact W.zret (v := 0) hx hb hr (by rfl) (fun t ht hW => ⟨by rw [hv9], ht⟩) (fun _ h => nomatch h) dX0_canBeMade_28
    · have h2 : (q_find (vXL S) x).isNone = true := by
        rw [q_find_of _ _ (xnu S), q_find_m1 (by rw [cl_of_len]; omega)] at hc20
        exact Option.isNone_iff_eq_none.mpr hc20
      refine lv_iconst (v := 1) hx hb dX0_canBeMade_23 (by decide) ?_
      refine lv_goto (tgt := 28) hx hb dX0_canBeMade_24 (by decide) ?_
      have hv9 : k_b (q_can (vXL S) x) = 1 := by simp [k_b, q_can, h1, h2]
      exact W.zret (v := 1) hx hb hr (by rfl) (fun t ht hW => ⟨by rw [hv9], ht⟩) (fun _ h => nomatch h) dX0_canBeMade_28

set_option maxHeartbeats 4000000 in
set_option maxRecDepth 100000 in
theorem kX0_firstWith (l : Launch) (D : va_G) (q : Nat → Nat) (cA : ClassId) (S : XS) (hok : okX S) (x : Int32) : xr_M l yX0_firstWith wsX0_firstWith ({ frames := 0, cells := 0, slots := 0, locals := 0 }) D vwCl [(cA, .int)] [.ref (q 0), .int x] (wX q cA S) (q_idx (q_frst (vXL S) x)) := by
  refine Met.ofW (cc := cX0_firstWith) (maxL := 3) (ret := (some .int)) (by decide) rfl ?_
  intro p e s m args below meth c s₁ B hml hv
  obtain ⟨rfl, hP, hK⟩ := hv
  obtain ⟨hn40, hh200, hg100⟩ := id hok
  have hx := B.exec
  have hb := B.bytes
  have hr := B.returns
  have hts := atoms_spec (ws := wsX0_firstWith) B.pre
  have hown : s.vm.findClass RX0 = some m.cls := findClass_of_methodNamed B.named
  have hlocks := B.notSynchronized
  have hinX0 : ∀ w ∈ u_ws RX0 TX0 12, w ∈ wsX0_firstWith := fun w h => List.mem_cons_of_mem _ (bw_X0 w h)
  have hf9 := hts _ (List.mem_cons_of_mem _ bw_21)
  have hf58 := hts _ (List.mem_cons_of_mem _ bw_23)
  have hl := lv_entry ([.ref (q 0), .int x]) (n := 3) (Nat.le_of_ble_eq_true rfl)
  rw [lg_entry_eq]
  generalize (lg_sl ([.ref (q 0), .int x]) ++ List.replicate (3 - (lg_sl ([.ref (q 0), .int x])).length) Slot.unset).toArray = ls at hl ⊢
  have hl : lv_has ls 3 [(0, .ref (q 0)), (1, .int x)] := hl
  refine lv_iconst (v := 0) hx hb dX0_firstWith_0 (by decide) ?_
  refine lv_istore_n (lv' := [(2, .int 0), (0, .ref (q 0)), (1, .int x)]) hx hb dX0_firstWith_1 rfl hl (by decide) rfl (fun ls hl => ?_)
  refine wlr (σ := Nat) (fun (k : Nat) ls => lv_has ls 3 [(2, .int (nI k)), (0, .ref (q 0)), (1, .int x)] ∧ k ≤ xn S ∧ q_up (fun k => (q_set (vXL S) k &&& x) != 0) (xn S - 0) 0 = q_up (fun k => (q_set (vXL S) k &&& x) != 0) (xn S - k) k) (fun (k : Nat) => xn S - k) 0 ⟨lv_sub hl [0, 1, 2] rfl, (by omega), rfl⟩ ?_
  intro k ls hI ih2
  obtain ⟨hl, hk, hq⟩ := hI
  have hl : lv_has ls 3 [(2, .int (nI k)), (0, .ref (q 0)), (1, .int x)] := hl
  refine lv_iload_n hx hb dX0_firstWith_2 rfl (lv_at hl 0 rfl) ?_
  refine lv_aload_n hx hb dX0_firstWith_3 rfl (lv_at hl 1 rfl) ?_
  refine va_get (v := .int (nI (xn S))) hx hb hts hinX0 hown hK hP 0 rfl rfl 4 (by decide) hf58 (fun _ h9 => h9) rfl dX0_firstWith_4 ?_
  refine lv_icmp_ge (tgt := 29) hx hb dX0_firstWith_7 (by decide) (fun hc7 => ?_) (fun hc7 => ?_)
  · have hge : xn S ≤ k := (nI_leI (by omega) (by omega)).mp hc7
    refine lv_iconst (v := (-1)) hx hb dX0_firstWith_29 (by decide) ?_
    have hv9 : q_idx (q_frst (vXL S) x) = (-1) := by rw [show q_frst (vXL S) x = q_up (fun k => (q_set (vXL S) k &&& x) != 0) (xn S - 0) 0 from by unfold q_frst; rw [cl_of_len]; rfl, hq, q_up_end hge]; rfl
    exact W.iret (v := (-1)) hx hb hr (fun t ht hW => ⟨by rw [hv9], ht⟩) (fun _ h => nomatch h) dX0_firstWith_30
  · have hlt : k < xn S := Nat.lt_of_not_le (fun z => hc7 ((nI_leI (by omega) (by omega)).mpr z))
    have hs : q_set (vXL S) k = xse S k := q_set_of hlt
    refine lv_aload_n hx hb dX0_firstWith_10 rfl (lv_at hl 1 rfl) ?_
    refine va_get (v := .ref (q 1)) hx hb hts hinX0 hown hK hP 0 rfl rfl 2 (by decide) hf9 (fun _ h9 => h9) rfl dX0_firstWith_11 ?_
    refine lv_iload_n hx hb dX0_firstWith_14 rfl (lv_at hl 0 rfl) ?_
    refine xa_ld hx hb hK hP 1 0 rfl rfl k (by omega) (by first | decide | assumption) dX0_firstWith_15 ?_
    refine lv_iload_n hx hb dX0_firstWith_16 rfl (lv_at hl 2 rfl) ?_
    refine lv_iand hx hb dX0_firstWith_17 ?_
    refine lv_if_eq (tgt := 23) hx hb dX0_firstWith_18 (by decide) (fun hc18 => ?_) (fun hc18 => ?_)
    · refine lv_iinc (k := 0) (v := nI (k + 1)) (lv' := [(2, .int (nI (k + 1))), (0, .ref (q 0)), (1, .int x)]) hx hb dX0_firstWith_23 hl rfl (ii_1 _) (by decide) rfl (fun ls hl => ?_)
      refine lv_goto (tgt := 2) hx hb dX0_firstWith_26 (by decide) ?_
      exact ih2 (k + 1) _ ⟨lv_sub hl [0, 1, 2] rfl, (by omega), hq.trans (q_up_f hlt (by simp [hc18, hs]))⟩ (by omega)
    · refine lv_iload_n hx hb dX0_firstWith_21 rfl (lv_at hl 0 rfl) ?_
      have hv9 : q_idx (q_frst (vXL S) x) = nI k := by rw [show q_frst (vXL S) x = q_up (fun k => (q_set (vXL S) k &&& x) != 0) (xn S - 0) 0 from by unfold q_frst; rw [cl_of_len]; rfl, hq, q_up_t hlt (by simp [hs, hc18])]; rfl
      exact W.iret (v := (nI k)) hx hb hr (fun t ht hW => ⟨by rw [hv9], ht⟩) (fun _ h => nomatch h) dX0_firstWith_22

set_option maxHeartbeats 4000000 in
set_option maxRecDepth 100000 in
theorem kX0_areAllTrue (l : Launch) (D : va_G) (q : Nat → Nat) (cA : ClassId) (S : XS) (hok : okX S) (x : Int32) : xr_M l yX0_areAllTrue wsX0_areAllTrue ({ frames := 0, cells := 0, slots := 0, locals := 0 }) D vwCl [(cA, .int)] [.ref (q 0), .int x] (wX q cA S) (k_b (q_aat (vXL S) x)) := by
  refine Met.ofW (cc := cX0_areAllTrue) (maxL := 3) (ret := (some .boolean)) (by decide) rfl ?_
  intro p e s m args below meth c s₁ B hml hv
  obtain ⟨rfl, hP, hK⟩ := hv
  obtain ⟨hn40, hh200, hg100⟩ := id hok
  have hx := B.exec
  have hb := B.bytes
  have hr := B.returns
  have hts := atoms_spec (ws := wsX0_areAllTrue) B.pre
  have hown : s.vm.findClass RX0 = some m.cls := findClass_of_methodNamed B.named
  have hlocks := B.notSynchronized
  have hinX0 : ∀ w ∈ u_ws RX0 TX0 12, w ∈ wsX0_areAllTrue := fun w h => List.mem_cons_of_mem _ (bw_X0 w h)
  have hf9 := hts _ (List.mem_cons_of_mem _ bw_21)
  have hf58 := hts _ (List.mem_cons_of_mem _ bw_23)
  have hl := lv_entry ([.ref (q 0), .int x]) (n := 3) (Nat.le_of_ble_eq_true rfl)
  rw [lg_entry_eq]
  generalize (lg_sl ([.ref (q 0), .int x]) ++ List.replicate (3 - (lg_sl ([.ref (q 0), .int x])).length) Slot.unset).toArray = ls at hl ⊢
  have hl : lv_has ls 3 [(0, .ref (q 0)), (1, .int x)] := hl
  refine lv_iconst (v := 0) hx hb dX0_areAllTrue_0 (by decide) ?_
  refine lv_istore_n (lv' := [(2, .int 0), (0, .ref (q 0)), (1, .int x)]) hx hb dX0_areAllTrue_1 rfl hl (by decide) rfl (fun ls hl => ?_)
  refine wlr (σ := Nat) (fun (k : Nat) ls => lv_has ls 3 [(2, .int (nI k)), (0, .ref (q 0)), (1, .int x)] ∧ k ≤ xn S ∧ q_up (fun k => (q_set (vXL S) k &&& x) == 0) (xn S - 0) 0 = q_up (fun k => (q_set (vXL S) k &&& x) == 0) (xn S - k) k) (fun (k : Nat) => xn S - k) 0 ⟨lv_sub hl [0, 1, 2] rfl, (by omega), rfl⟩ ?_
  intro k ls hI ih2
  obtain ⟨hl, hk, hq⟩ := hI
  have hl : lv_has ls 3 [(2, .int (nI k)), (0, .ref (q 0)), (1, .int x)] := hl
  refine lv_iload_n hx hb dX0_areAllTrue_2 rfl (lv_at hl 0 rfl) ?_
  refine lv_aload_n hx hb dX0_areAllTrue_3 rfl (lv_at hl 1 rfl) ?_
  refine va_get (v := .int (nI (xn S))) hx hb hts hinX0 hown hK hP 0 rfl rfl 4 (by decide) hf58 (fun _ h9 => h9) rfl dX0_areAllTrue_4 ?_
  refine lv_icmp_ge (tgt := 29) hx hb dX0_areAllTrue_7 (by decide) (fun hc7 => ?_) (fun hc7 => ?_)
  · have hge : xn S ≤ k := (nI_leI (by omega) (by omega)).mp hc7
    refine lv_iconst (v := 1) hx hb dX0_areAllTrue_29 (by decide) ?_
    have hv9 : k_b (q_aat (vXL S) x) = 1 := by rw [show q_aat (vXL S) x = (q_up (fun k => (q_set (vXL S) k &&& x) == 0) (xn S - 0) 0).isNone from by unfold q_aat; rw [cl_of_len]; rfl, hq, q_up_end hge]; rfl
    exact W.zret (v := 1) hx hb hr (by rfl) (fun t ht hW => ⟨by rw [hv9], ht⟩) (fun _ h => nomatch h) dX0_areAllTrue_30
  · have hlt : k < xn S := Nat.lt_of_not_le (fun z => hc7 ((nI_leI (by omega) (by omega)).mpr z))
    have hs : q_set (vXL S) k = xse S k := q_set_of hlt
    refine lv_aload_n hx hb dX0_areAllTrue_10 rfl (lv_at hl 1 rfl) ?_
    refine va_get (v := .ref (q 1)) hx hb hts hinX0 hown hK hP 0 rfl rfl 2 (by decide) hf9 (fun _ h9 => h9) rfl dX0_areAllTrue_11 ?_
    refine lv_iload_n hx hb dX0_areAllTrue_14 rfl (lv_at hl 0 rfl) ?_
    refine xa_ld hx hb hK hP 1 0 rfl rfl k (by omega) (by first | decide | assumption) dX0_areAllTrue_15 ?_
    refine lv_iload_n hx hb dX0_areAllTrue_16 rfl (lv_at hl 2 rfl) ?_
    refine lv_iand hx hb dX0_areAllTrue_17 ?_
    refine lv_if_ne (tgt := 23) hx hb dX0_areAllTrue_18 (by decide) (fun hc18 => ?_) (fun hc18 => ?_)
    · refine lv_iinc (k := 0) (v := nI (k + 1)) (lv' := [(2, .int (nI (k + 1))), (0, .ref (q 0)), (1, .int x)]) hx hb dX0_areAllTrue_23 hl rfl (ii_1 _) (by decide) rfl (fun ls hl => ?_)
      refine lv_goto (tgt := 2) hx hb dX0_areAllTrue_26 (by decide) ?_
      exact ih2 (k + 1) _ ⟨lv_sub hl [0, 1, 2] rfl, (by omega), hq.trans (q_up_f hlt (by simp [hc18, hs]))⟩ (by omega)
    · refine lv_iconst (v := 0) hx hb dX0_areAllTrue_21 (by decide) ?_
      have hv9 : k_b (q_aat (vXL S) x) = 0 := by rw [show q_aat (vXL S) x = (q_up (fun k => (q_set (vXL S) k &&& x) == 0) (xn S - 0) 0).isNone from by unfold q_aat; rw [cl_of_len]; rfl, hq, q_up_t hlt (by simp [hs, hc18])]; rfl
      exact W.zret (v := 0) hx hb hr (by rfl) (fun t ht hW => ⟨by rw [hv9], ht⟩) (fun _ h => nomatch h) dX0_areAllTrue_22

set_option maxHeartbeats 4000000 in
set_option maxRecDepth 100000 in
theorem kX0_isSubsumed (l : Launch) (D : va_G) (q : Nat → Nat) (cA : ClassId) (S : XS) (hok : okX S) (k : Nat) (hk9 : k < xn S) : xr_M l yX0_isSubsumed wsX0_isSubsumed ({ frames := 0, cells := 0, slots := 0, locals := 0 }) D vwCl [(cA, .int)] [.ref (q 0), .int (nI k)] (wX q cA S) (k_b (q_sub1 (vXL S) k)) := by
  refine Met.ofW (cc := cX0_isSubsumed) (maxL := 3) (ret := (some .boolean)) (by decide) rfl ?_
  intro p e s m args below meth c s₁ B hml hv
  obtain ⟨rfl, hP, hK⟩ := hv
  obtain ⟨hn40, hh200, hg100⟩ := id hok
  have hx := B.exec
  have hb := B.bytes
  have hr := B.returns
  have hts := atoms_spec (ws := wsX0_isSubsumed) B.pre
  have hown : s.vm.findClass RX0 = some m.cls := findClass_of_methodNamed B.named
  have hlocks := B.notSynchronized
  have hinX0 : ∀ w ∈ u_ws RX0 TX0 12, w ∈ wsX0_isSubsumed := fun w h => List.mem_cons_of_mem _ (bw_X0 w h)
  have hf9 := hts _ (List.mem_cons_of_mem _ bw_21)
  have hf58 := hts _ (List.mem_cons_of_mem _ bw_23)
  have hl := lv_entry ([.ref (q 0), .int (nI k)]) (n := 3) (Nat.le_of_ble_eq_true rfl)
  rw [lg_entry_eq]
  generalize (lg_sl ([.ref (q 0), .int (nI k)]) ++ List.replicate (3 - (lg_sl ([.ref (q 0), .int (nI k)])).length) Slot.unset).toArray = ls at hl ⊢
  have hl : lv_has ls 3 [(0, .ref (q 0)), (1, .int (nI k))] := hl
  refine lv_iconst (v := 0) hx hb dX0_isSubsumed_0 (by decide) ?_
  refine lv_istore_n (lv' := [(2, .int 0), (0, .ref (q 0)), (1, .int (nI k))]) hx hb dX0_isSubsumed_1 rfl hl (by decide) rfl (fun ls hl => ?_)
  refine wlr (σ := Nat) (fun (j : Nat) ls => lv_has ls 3 [(2, .int (nI j)), (0, .ref (q 0)), (1, .int (nI k))] ∧ j ≤ xn S ∧ q_up (fun d => d != k && (q_set (vXL S) d &&& k_not (q_set (vXL S) k)) == 0) (xn S - 0) 0 = q_up (fun d => d != k && (q_set (vXL S) d &&& k_not (q_set (vXL S) k)) == 0) (xn S - j) j) (fun (j : Nat) => xn S - j) 0 ⟨lv_sub hl [0, 1, 2] rfl, (by omega), rfl⟩ ?_
  intro j ls hI ih2
  obtain ⟨hl, hk, hq⟩ := hI
  have hl : lv_has ls 3 [(2, .int (nI j)), (0, .ref (q 0)), (1, .int (nI k))] := hl
  refine lv_iload_n hx hb dX0_isSubsumed_2 rfl (lv_at hl 0 rfl) ?_
  refine lv_aload_n hx hb dX0_isSubsumed_3 rfl (lv_at hl 1 rfl) ?_
  refine va_get (v := .int (nI (xn S))) hx hb hts hinX0 hown hK hP 0 rfl rfl 4 (by decide) hf58 (fun _ h9 => h9) rfl dX0_isSubsumed_4 ?_
  refine lv_icmp_ge (tgt := 41) hx hb dX0_isSubsumed_7 (by decide) (fun hc7 => ?_) (fun hc7 => ?_)
  · have hge : xn S ≤ j := (nI_leI (by omega) (by omega)).mp hc7
    refine lv_iconst (v := 0) hx hb dX0_isSubsumed_41 (by decide) ?_
    have hv9 : k_b (q_sub1 (vXL S) k) = 0 := by rw [show q_sub1 (vXL S) k = (q_up (fun d => d != k && (q_set (vXL S) d &&& k_not (q_set (vXL S) k)) == 0) (xn S - 0) 0).isSome from by unfold q_sub1; rw [cl_of_len]; rfl, hq, q_up_end hge]; rfl
    exact W.zret (v := 0) hx hb hr (by rfl) (fun t ht hW => ⟨by rw [hv9], ht⟩) (fun _ h => nomatch h) dX0_isSubsumed_42
  · have hlt : j < xn S := Nat.lt_of_not_le (fun z => hc7 ((nI_leI (by omega) (by omega)).mpr z))
    have hs : q_set (vXL S) j = xse S j := q_set_of hlt
    have hs2 : q_set (vXL S) k = xse S k := q_set_of hk9
    refine lv_iload_n hx hb dX0_isSubsumed_10 rfl (lv_at hl 0 rfl) ?_
    refine lv_iload_n hx hb dX0_isSubsumed_11 rfl (lv_at hl 2 rfl) ?_
    refine lv_icmp_eq (tgt := 35) hx hb dX0_isSubsumed_12 (by decide) (fun hc12 => ?_) (fun hc12 => ?_)
    · have hc12 : j = k := (nI_eq (by omega) (by omega)).mp hc12
      refine lv_iinc (k := 0) (v := nI (j + 1)) (lv' := [(2, .int (nI (j + 1))), (0, .ref (q 0)), (1, .int (nI k))]) hx hb dX0_isSubsumed_35 hl rfl (ii_1 _) (by decide) rfl (fun ls hl => ?_)
      refine lv_goto (tgt := 2) hx hb dX0_isSubsumed_38 (by decide) ?_
      exact ih2 (j + 1) _ ⟨lv_sub hl [0, 1, 2] rfl, (by omega), hq.trans (q_up_f hlt (by simp [hc12, hs, hs2]))⟩ (by omega)
    · have hc12 : ¬ j = k := fun z => hc12 (by rw [z])
      refine lv_aload_n hx hb dX0_isSubsumed_15 rfl (lv_at hl 1 rfl) ?_
      refine va_get (v := .ref (q 1)) hx hb hts hinX0 hown hK hP 0 rfl rfl 2 (by decide) hf9 (fun _ h9 => h9) rfl dX0_isSubsumed_16 ?_
      refine lv_iload_n hx hb dX0_isSubsumed_19 rfl (lv_at hl 0 rfl) ?_
      refine xa_ld hx hb hK hP 1 0 rfl rfl j (by omega) (by first | decide | assumption) dX0_isSubsumed_20 ?_
      refine lv_aload_n hx hb dX0_isSubsumed_21 rfl (lv_at hl 1 rfl) ?_
      refine va_get (v := .ref (q 1)) hx hb hts hinX0 hown hK hP 0 rfl rfl 2 (by decide) hf9 (fun _ h9 => h9) rfl dX0_isSubsumed_22 ?_
      refine lv_iload_n hx hb dX0_isSubsumed_25 rfl (lv_at hl 2 rfl) ?_
      refine xa_ld hx hb hK hP 1 0 rfl rfl k (by omega) (by first | decide | assumption) dX0_isSubsumed_26 ?_
      refine lv_iconst (v := (-1)) hx hb dX0_isSubsumed_27 (by decide) ?_
      refine xi_not hx hb dX0_isSubsumed_28 ?_
      refine lv_iand hx hb dX0_isSubsumed_29 ?_
      refine lv_if_ne (tgt := 35) hx hb dX0_isSubsumed_30 (by decide) (fun hc30 => ?_) (fun hc30 => ?_)
      · refine lv_iinc (k := 0) (v := nI (j + 1)) (lv' := [(2, .int (nI (j + 1))), (0, .ref (q 0)), (1, .int (nI k))]) hx hb dX0_isSubsumed_35 hl rfl (ii_1 _) (by decide) rfl (fun ls hl => ?_)
        refine lv_goto (tgt := 2) hx hb dX0_isSubsumed_38 (by decide) ?_
        exact ih2 (j + 1) _ ⟨lv_sub hl [0, 1, 2] rfl, (by omega), hq.trans (q_up_f hlt (by simp [hc12, hc30, hs, hs2]))⟩ (by omega)
      · refine lv_iconst (v := 1) hx hb dX0_isSubsumed_33 (by decide) ?_
        have hv9 : k_b (q_sub1 (vXL S) k) = 1 := by rw [show q_sub1 (vXL S) k = (q_up (fun d => d != k && (q_set (vXL S) d &&& k_not (q_set (vXL S) k)) == 0) (xn S - 0) 0).isSome from by unfold q_sub1; rw [cl_of_len]; rfl, hq, q_up_t hlt (by simp [hs, hs2, hc12, hc30])]; rfl
        exact W.zret (v := 1) hx hb hr (by rfl) (fun t ht hW => ⟨by rw [hv9], ht⟩) (fun _ h => nomatch h) dX0_isSubsumed_34

set_option maxHeartbeats 4000000 in
set_option maxRecDepth 100000 in
theorem kX0_clauses (l : Launch) (D : va_G) (q : Nat → Nat) (cA : ClassId) (S : XS) (hok : okX S) : xr_M l yX0_clauses wsX0_clauses ({ frames := 0, cells := 0, slots := 0, locals := 0 }) D vwCl [(cA, .int)] [.ref (q 0)] (wX q cA S) (nI (xn S)) := by
  refine Met.ofW (cc := cX0_clauses) (maxL := 1) (ret := (some .int)) (by decide) rfl ?_
  intro p e s m args below meth c s₁ B hml hv
  obtain ⟨rfl, hP, hK⟩ := hv
  obtain ⟨hn40, hh200, hg100⟩ := id hok
  have hx := B.exec
  have hb := B.bytes
  have hr := B.returns
  have hts := atoms_spec (ws := wsX0_clauses) B.pre
  have hown : s.vm.findClass RX0 = some m.cls := findClass_of_methodNamed B.named
  have hlocks := B.notSynchronized
  have hinX0 : ∀ w ∈ u_ws RX0 TX0 12, w ∈ wsX0_clauses := fun w h => List.mem_cons_of_mem _ (bw_X0 w h)
  have hf58 := hts _ (List.mem_cons_of_mem _ bw_23)
  have hl := lv_entry ([.ref (q 0)]) (n := 1) (Nat.le_of_ble_eq_true rfl)
  rw [lg_entry_eq]
  generalize (lg_sl ([.ref (q 0)]) ++ List.replicate (1 - (lg_sl ([.ref (q 0)])).length) Slot.unset).toArray = ls at hl ⊢
  have hl : lv_has ls 1 [(0, .ref (q 0))] := hl
  refine lv_aload_n hx hb dX0_clauses_0 rfl (lv_at hl 0 rfl) ?_
  refine va_get (v := .int (nI (xn S))) hx hb hts hinX0 hown hK hP 0 rfl rfl 4 (by decide) hf58 (fun _ h9 => h9) rfl dX0_clauses_1 ?_
  exact W.iret (v := (nI (xn S))) hx hb hr (fun t ht hW => ⟨rfl, ht⟩) (fun _ h => nomatch h) dX0_clauses_4

set_option maxHeartbeats 4000000 in
set_option maxRecDepth 100000 in
theorem kX0_entries (l : Launch) (D : va_G) (q : Nat → Nat) (cA : ClassId) (S : XS) (hok : okX S) : xr_M l yX0_entries wsX0_entries ({ frames := 0, cells := 0, slots := 0, locals := 0 }) D vwCl [(cA, .int)] [.ref (q 0)] (wX q cA S) (nI (xh S)) := by
  refine Met.ofW (cc := cX0_entries) (maxL := 1) (ret := (some .int)) (by decide) rfl ?_
  intro p e s m args below meth c s₁ B hml hv
  obtain ⟨rfl, hP, hK⟩ := hv
  obtain ⟨hn40, hh200, hg100⟩ := id hok
  have hx := B.exec
  have hb := B.bytes
  have hr := B.returns
  have hts := atoms_spec (ws := wsX0_entries) B.pre
  have hown : s.vm.findClass RX0 = some m.cls := findClass_of_methodNamed B.named
  have hlocks := B.notSynchronized
  have hinX0 : ∀ w ∈ u_ws RX0 TX0 12, w ∈ wsX0_entries := fun w h => List.mem_cons_of_mem _ (bw_X0 w h)
  have hf149 := hts _ (List.mem_cons_of_mem _ bw_27)
  have hl := lv_entry ([.ref (q 0)]) (n := 1) (Nat.le_of_ble_eq_true rfl)
  rw [lg_entry_eq]
  generalize (lg_sl ([.ref (q 0)]) ++ List.replicate (1 - (lg_sl ([.ref (q 0)])).length) Slot.unset).toArray = ls at hl ⊢
  have hl : lv_has ls 1 [(0, .ref (q 0))] := hl
  refine lv_aload_n hx hb dX0_entries_0 rfl (lv_at hl 0 rfl) ?_
  refine va_get (v := .int (nI (xh S))) hx hb hts hinX0 hown hK hP 0 rfl rfl 8 (by decide) hf149 (fun _ h9 => h9) rfl dX0_entries_1 ?_
  exact W.iret (v := (nI (xh S))) hx hb hr (fun t ht hW => ⟨rfl, ht⟩) (fun _ h => nomatch h) dX0_entries_4

set_option maxHeartbeats 4000000 in
set_option maxRecDepth 100000 in
theorem kX0_assignment (l : Launch) (D : va_G) (q : Nat → Nat) (cA : ClassId) (S : XS) (hok : okX S) : xr_M l yX0_assignment wsX0_assignment ({ frames := 0, cells := 0, slots := 0, locals := 0 }) D vwCl [(cA, .int)] [.ref (q 0)] (wX q cA S) (xt S) := by
  refine Met.ofW (cc := cX0_assignment) (maxL := 1) (ret := (some .int)) (by decide) rfl ?_
  intro p e s m args below meth c s₁ B hml hv
  obtain ⟨rfl, hP, hK⟩ := hv
  obtain ⟨hn40, hh200, hg100⟩ := id hok
  have hx := B.exec
  have hb := B.bytes
  have hr := B.returns
  have hts := atoms_spec (ws := wsX0_assignment) B.pre
  have hown : s.vm.findClass RX0 = some m.cls := findClass_of_methodNamed B.named
  have hlocks := B.notSynchronized
  have hinX0 : ∀ w ∈ u_ws RX0 TX0 12, w ∈ wsX0_assignment := fun w h => List.mem_cons_of_mem _ (bw_X0 w h)
  have hf184 := hts _ (List.mem_cons_of_mem _ bw_20)
  have hl := lv_entry ([.ref (q 0)]) (n := 1) (Nat.le_of_ble_eq_true rfl)
  rw [lg_entry_eq]
  generalize (lg_sl ([.ref (q 0)]) ++ List.replicate (1 - (lg_sl ([.ref (q 0)])).length) Slot.unset).toArray = ls at hl ⊢
  have hl : lv_has ls 1 [(0, .ref (q 0))] := hl
  refine lv_aload_n hx hb dX0_assignment_0 rfl (lv_at hl 0 rfl) ?_
  refine va_get (v := .int (xt S)) hx hb hts hinX0 hown hK hP 0 rfl rfl 1 (by decide) hf184 (fun _ h9 => h9) rfl dX0_assignment_1 ?_
  exact W.iret (v := (xt S)) hx hb hr (fun t ht hW => ⟨rfl, ht⟩) (fun _ h => nomatch h) dX0_assignment_4
