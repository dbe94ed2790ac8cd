/-! The class: methods that touch no cell. -/
set_option maxHeartbeats 4000000 in
set_option maxRecDepth 100000 in
theorem kX0_positive (l : Launch) (v : Int32) : xs_M l yX0_positive wsX0_positive ({ frames := 0, cells := 0, slots := 0, locals := 0 }) [.int v] (k_pos v) := by
  refine Met.ofW (cc := cX0_positive) (maxL := 1) (ret := (some .int)) (by decide) rfl ?_
  intro p e s m args below meth c s₁ B hml hv
  subst hv
  have hx := B.exec
  have hb := B.bytes
  have hr := B.returns
  have hts := atoms_spec (ws := wsX0_positive) B.pre
  have hown : s.vm.findClass RX0 = some m.cls := findClass_of_methodNamed B.named
  have hlocks := B.notSynchronized
  have hl := lv_entry ([.int v]) (n := 1) (Nat.le_of_ble_eq_true rfl)
  rw [lg_entry_eq]
  generalize (lg_sl ([.int v]) ++ List.replicate (1 - (lg_sl ([.int v])).length) Slot.unset).toArray = ls at hl ⊢
  have hl : lv_has ls 1 [(0, .int v)] := hl
  refine lv_iconst (v := 1) hx hb dX0_positive_0 (by decide) ?_
  refine lv_iload_n hx hb dX0_positive_1 rfl (lv_at hl 0 rfl) ?_
  refine lv_ishl hx hb dX0_positive_2 ?_
  exact W.iret (v := (k_pos v)) hx hb hr (fun t ht hW => ⟨rfl, ht⟩) (fun _ h => nomatch h) dX0_positive_3

set_option maxHeartbeats 4000000 in
set_option maxRecDepth 100000 in
theorem kX0_negative (l : Launch) (v : Int32) : xs_M l yX0_negative wsX0_negative ({ frames := 0, cells := 0, slots := 0, locals := 0 }) [.int v] (k_neg v) := by
  refine Met.ofW (cc := cX0_negative) (maxL := 1) (ret := (some .int)) (by decide) rfl ?_
  intro p e s m args below meth c s₁ B hml hv
  subst hv
  have hx := B.exec
  have hb := B.bytes
  have hr := B.returns
  have hts := atoms_spec (ws := wsX0_negative) B.pre
  have hown : s.vm.findClass RX0 = some m.cls := findClass_of_methodNamed B.named
  have hlocks := B.notSynchronized
  have hl := lv_entry ([.int v]) (n := 1) (Nat.le_of_ble_eq_true rfl)
  rw [lg_entry_eq]
  generalize (lg_sl ([.int v]) ++ List.replicate (1 - (lg_sl ([.int v])).length) Slot.unset).toArray = ls at hl ⊢
  have hl : lv_has ls 1 [(0, .int v)] := hl
  refine lv_iconst (v := 1) hx hb dX0_negative_0 (by decide) ?_
  refine lv_bipush (v := 16) hx hb dX0_negative_1 (by decide) ?_
  refine lv_iload_n hx hb dX0_negative_3 rfl (lv_at hl 0 rfl) ?_
  refine lv_iadd hx hb dX0_negative_4 ?_
  refine lv_ishl hx hb dX0_negative_5 ?_
  exact W.iret (v := (k_neg v)) hx hb hr (fun t ht hW => ⟨rfl, ht⟩) (fun _ h => nomatch h) dX0_negative_6

set_option maxHeartbeats 4000000 in
set_option maxRecDepth 100000 in
theorem kX0_bothLiterals (l : Launch) (v : Int32) : xs_M l yX0_bothLiterals wsX0_bothLiterals ({ frames := 1, cells := 0, slots := 0, locals := 20 }) [.int v] (k_both v) := by
  refine Met.ofW (cc := cX0_bothLiterals) (maxL := 1) (ret := (some .int)) (by decide) rfl ?_
  intro p e s m args below meth c s₁ B hml hv
  subst hv
  have hx := B.exec
  have hb := B.bytes
  have hr := B.returns
  have hts := atoms_spec (ws := wsX0_bothLiterals) B.pre
  have hown : s.vm.findClass RX0 = some m.cls := findClass_of_methodNamed B.named
  have hlocks := B.notSynchronized
  have hl := lv_entry ([.int v]) (n := 1) (Nat.le_of_ble_eq_true rfl)
  rw [lg_entry_eq]
  generalize (lg_sl ([.int v]) ++ List.replicate (1 - (lg_sl ([.int v])).length) Slot.unset).toArray = ls at hl ⊢
  have hl : lv_has ls 1 [(0, .int v)] := hl
  refine lv_iload_n hx hb dX0_bothLiterals_0 rfl (lv_at hl 0 rfl) ?_
  refine xc_s (As := [.int v]) (rest := []) ⟨hx, hb, hml, hown, hts⟩ (kX0_positive l v) (va_cwS 1 hts (gd_S bw_54 bw_55 bw_1 bw_56) rfl rfl rfl (by decide +kernel) ⟨Nat.le_of_ble_eq_true rfl, Nat.le_of_ble_eq_true rfl⟩) rfl hl.1 rfl (Nat.le_of_ble_eq_true rfl) dX0_bothLiterals_1 ⟨Nat.zero_le _, Nat.zero_le _⟩ ?_
  refine lv_iload_n hx hb dX0_bothLiterals_4 rfl (lv_at hl 0 rfl) ?_
  refine xc_s (As := [.int v]) (rest := [.int (k_pos v)]) ⟨hx, hb, hml, hown, hts⟩ (kX0_negative l v) (va_cwS 1 hts (gd_S bw_100 bw_101 bw_1 bw_102) rfl rfl rfl (by decide +kernel) ⟨Nat.le_of_ble_eq_true rfl, Nat.le_of_ble_eq_true rfl⟩) rfl hl.1 rfl (Nat.le_of_ble_eq_true rfl) dX0_bothLiterals_5 ⟨Nat.zero_le _, Nat.zero_le _⟩ ?_
  refine lv_ior hx hb dX0_bothLiterals_8 ?_
  exact W.iret (v := (k_both v)) hx hb hr (fun t ht hW => ⟨rfl, ht⟩) (fun _ h => nomatch h) dX0_bothLiterals_9

set_option maxHeartbeats 4000000 in
set_option maxRecDepth 100000 in
theorem kX0_contrary (l : Launch) (x : Int32) : xs_M l yX0_contrary wsX0_contrary ({ frames := 0, cells := 0, slots := 0, locals := 0 }) [.int x] (k_con x) := by
  refine Met.ofW (cc := cX0_contrary) (maxL := 1) (ret := (some .int)) (by decide) rfl ?_
  intro p e s m args below meth c s₁ B hml hv
  subst hv
  have hx := B.exec
  have hb := B.bytes
  have hr := B.returns
  have hts := atoms_spec (ws := wsX0_contrary) B.pre
  have hown : s.vm.findClass RX0 = some m.cls := findClass_of_methodNamed B.named
  have hlocks := B.notSynchronized
  have hl := lv_entry ([.int x]) (n := 1) (Nat.le_of_ble_eq_true rfl)
  rw [lg_entry_eq]
  generalize (lg_sl ([.int x]) ++ List.replicate (1 - (lg_sl ([.int x])).length) Slot.unset).toArray = ls at hl ⊢
  have hl : lv_has ls 1 [(0, .int x)] := hl
  refine lv_iload_n hx hb dX0_contrary_0 rfl (lv_at hl 0 rfl) ?_
  refine lv_bipush (v := 16) hx hb dX0_contrary_1 (by decide) ?_
  refine lv_ishl hx hb dX0_contrary_3 ?_
  refine lv_iload_n hx hb dX0_contrary_4 rfl (lv_at hl 0 rfl) ?_
  refine lv_bipush (v := 16) hx hb dX0_contrary_5 (by decide) ?_
  refine lv_iushr (v := k_ush x 16) hx hb dX0_contrary_7 rfl ?_
  refine lv_ior hx hb dX0_contrary_8 ?_
  exact W.iret (v := (k_con x)) hx hb hr (fun t ht hW => ⟨rfl, ht⟩) (fun _ h => nomatch h) dX0_contrary_9

set_option maxHeartbeats 4000000 in
set_option maxRecDepth 100000 in
theorem kX0_resolvent (l : Launch) (c9 : Int32) (d9 : Int32) (w9 : Int32) : xs_M l yX0_resolvent wsX0_resolvent ({ frames := 0, cells := 0, slots := 0, locals := 0 }) [.int c9, .int d9, .int w9] (k_res c9 d9 w9) := by
  refine Met.ofW (cc := cX0_resolvent) (maxL := 3) (ret := (some .int)) (by decide) rfl ?_
  intro p e s m args below meth c s₁ B hml hv
  subst hv
  have hx := B.exec
  have hb := B.bytes
  have hr := B.returns
  have hts := atoms_spec (ws := wsX0_resolvent) B.pre
  have hown : s.vm.findClass RX0 = some m.cls := findClass_of_methodNamed B.named
  have hlocks := B.notSynchronized
  have hl := lv_entry ([.int c9, .int d9, .int w9]) (n := 3) (Nat.le_of_ble_eq_true rfl)
  rw [lg_entry_eq]
  generalize (lg_sl ([.int c9, .int d9, .int w9]) ++ List.replicate (3 - (lg_sl ([.int c9, .int d9, .int w9])).length) Slot.unset).toArray = ls at hl ⊢
  have hl : lv_has ls 3 [(0, .int c9), (1, .int d9), (2, .int w9)] := hl
  refine lv_iload_n hx hb dX0_resolvent_0 rfl (lv_at hl 0 rfl) ?_
  refine lv_iload_n hx hb dX0_resolvent_1 rfl (lv_at hl 1 rfl) ?_
  refine lv_ior hx hb dX0_resolvent_2 ?_
  refine lv_iload_n hx hb dX0_resolvent_3 rfl (lv_at hl 2 rfl) ?_
  refine lv_iconst (v := (-1)) hx hb dX0_resolvent_4 (by decide) ?_
  refine xi_not hx hb dX0_resolvent_5 ?_
  refine lv_iand hx hb dX0_resolvent_6 ?_
  exact W.iret (v := (k_res c9 d9 w9)) hx hb hr (fun t ht hW => ⟨rfl, ht⟩) (fun _ h => nomatch h) dX0_resolvent_7

set_option maxHeartbeats 4000000 in
set_option maxRecDepth 100000 in
theorem kX0_trueLiterals (l : Launch) (t9 : Int32) : xs_M l yX0_trueLiterals wsX0_trueLiterals ({ frames := 0, cells := 0, slots := 0, locals := 0 }) [.int t9] (k_tl t9) := by
  refine Met.ofW (cc := cX0_trueLiterals) (maxL := 1) (ret := (some .int)) (by decide) rfl ?_
  intro p e s m args below meth c s₁ B hml hv
  subst hv
  have hx := B.exec
  have hb := B.bytes
  have hr := B.returns
  have hts := atoms_spec (ws := wsX0_trueLiterals) B.pre
  have hown : s.vm.findClass RX0 = some m.cls := findClass_of_methodNamed B.named
  have hlocks := B.notSynchronized
  have hl := lv_entry ([.int t9]) (n := 1) (Nat.le_of_ble_eq_true rfl)
  rw [lg_entry_eq]
  generalize (lg_sl ([.int t9]) ++ List.replicate (1 - (lg_sl ([.int t9])).length) Slot.unset).toArray = ls at hl ⊢
  have hl : lv_has ls 1 [(0, .int t9)] := hl
  refine lv_iload_n hx hb dX0_trueLiterals_0 rfl (lv_at hl 0 rfl) ?_
  refine lv_sipush (v := 2046) hx hb dX0_trueLiterals_1 (by decide) ?_
  refine lv_iload_n hx hb dX0_trueLiterals_4 rfl (lv_at hl 0 rfl) ?_
  refine lv_iconst (v := (-1)) hx hb dX0_trueLiterals_5 (by decide) ?_
  refine xi_not hx hb dX0_trueLiterals_6 ?_
  refine lv_iand hx hb dX0_trueLiterals_7 ?_
  refine lv_bipush (v := 16) hx hb dX0_trueLiterals_8 (by decide) ?_
  refine lv_ishl hx hb dX0_trueLiterals_10 ?_
  refine lv_ior hx hb dX0_trueLiterals_11 ?_
  exact W.iret (v := (k_tl t9)) hx hb hr (fun t ht hW => ⟨rfl, ht⟩) (fun _ h => nomatch h) dX0_trueLiterals_12

set_option maxHeartbeats 4000000 in
set_option maxRecDepth 100000 in
theorem kX0_isVariable (l : Launch) (v : Int32) : xs_M l yX0_isVariable wsX0_isVariable ({ frames := 0, cells := 0, slots := 0, locals := 0 }) [.int v] (k_b (k_isV v)) := by
  refine Met.ofW (cc := cX0_isVariable) (maxL := 1) (ret := (some .boolean)) (by decide) rfl ?_
  intro p e s m args below meth c s₁ B hml hv
  subst hv
  have hx := B.exec
  have hb := B.bytes
  have hr := B.returns
  have hts := atoms_spec (ws := wsX0_isVariable) B.pre
  have hown : s.vm.findClass RX0 = some m.cls := findClass_of_methodNamed B.named
  have hlocks := B.notSynchronized
  have hl := lv_entry ([.int v]) (n := 1) (Nat.le_of_ble_eq_true rfl)
  rw [lg_entry_eq]
  generalize (lg_sl ([.int v]) ++ List.replicate (1 - (lg_sl ([.int v])).length) Slot.unset).toArray = ls at hl ⊢
  have hl : lv_has ls 1 [(0, .int v)] := hl
  refine lv_iload_n hx hb dX0_isVariable_0 rfl (lv_at hl 0 rfl) ?_
  refine lv_iconst (v := 1) hx hb dX0_isVariable_1 (by decide) ?_
  refine lv_icmp_lt (tgt := 15) hx hb dX0_isVariable_2 (by decide) (fun hc2 => ?_) (fun hc2 => ?_)
  · refine lv_iconst (v := 0) hx hb dX0_isVariable_15 (by decide) ?_
    have hv9 : k_b (k_isV v) = 0 := by simp [k_b, k_isV, hc2]
    exact W.zret (v := 0) hx hb hr (by rfl) (fun t ht hW => ⟨by rw [hv9], ht⟩) (fun _ h => nomatch h) dX0_isVariable_16
  · refine lv_iload_n hx hb dX0_isVariable_5 rfl (lv_at hl 0 rfl) ?_
    refine lv_bipush (v := 10) hx hb dX0_isVariable_6 (by decide) ?_
    refine lv_icmp_gt (tgt := 15) hx hb dX0_isVariable_8 (by decide) (fun hc8 => ?_) (fun hc8 => ?_)
    · refine lv_iconst (v := 0) hx hb dX0_isVariable_15 (by decide) ?_
      have hv9 : k_b (k_isV v) = 0 := by simp [k_b, k_isV, hc2, hc8]
      exact W.zret (v := 0) hx hb hr (by rfl) (fun t ht hW => ⟨by rw [hv9], ht⟩) (fun _ h => nomatch h) dX0_isVariable_16
    · refine lv_iconst (v := 1) hx hb dX0_isVariable_11 (by decide) ?_
      refine lv_goto (tgt := 16) hx hb dX0_isVariable_12 (by decide) ?_
      have hv9 : k_b (k_isV v) = 1 := by simp [k_b, k_isV, hc2, hc8]
      exact W.zret (v := 1) hx hb hr (by rfl) (fun t ht hW => ⟨by rw [hv9], ht⟩) (fun _ h => nomatch h) dX0_isVariable_16

set_option maxHeartbeats 4000000 in
set_option maxRecDepth 100000 in
theorem kX0_isLiteral (l : Launch) (x : Int32) : xs_M l yX0_isLiteral wsX0_isLiteral ({ frames := 0, cells := 0, slots := 0, locals := 0 }) [.int x] (k_b (k_isL x)) := by
  refine Met.ofW (cc := cX0_isLiteral) (maxL := 1) (ret := (some .boolean)) (by decide) rfl ?_
  intro p e s m args below meth c s₁ B hml hv
  subst hv
  have hx := B.exec
  have hb := B.bytes
  have hr := B.returns
  have hts := atoms_spec (ws := wsX0_isLiteral) B.pre
  have hown : s.vm.findClass RX0 = some m.cls := findClass_of_methodNamed B.named
  have hlocks := B.notSynchronized
  have hl := lv_entry ([.int x]) (n := 1) (Nat.le_of_ble_eq_true rfl)
  rw [lg_entry_eq]
  generalize (lg_sl ([.int x]) ++ List.replicate (1 - (lg_sl ([.int x])).length) Slot.unset).toArray = ls at hl ⊢
  have hl : lv_has ls 1 [(0, .int x)] := hl
  refine lv_iload_n hx hb dX0_isLiteral_0 rfl (lv_at hl 0 rfl) ?_
  refine lv_if_eq (tgt := 20) hx hb dX0_isLiteral_1 (by decide) (fun hc1 => ?_) (fun hc1 => ?_)
  · refine lv_iconst (v := 0) hx hb dX0_isLiteral_20 (by decide) ?_
    have hv9 : k_b (k_isL x) = 0 := by simp [k_b, k_isL, hc1]
    exact W.zret (v := 0) hx hb hr (by rfl) (fun t ht hW => ⟨by rw [hv9], ht⟩) (fun _ h => nomatch h) dX0_isLiteral_21
  · refine lv_iload_n hx hb dX0_isLiteral_4 rfl (lv_at hl 0 rfl) ?_
    refine lv_bipush (v := (-10)) hx hb dX0_isLiteral_5 (by decide) ?_
    refine lv_icmp_lt (tgt := 20) hx hb dX0_isLiteral_7 (by decide) (fun hc7 => ?_) (fun hc7 => ?_)
    · refine lv_iconst (v := 0) hx hb dX0_isLiteral_20 (by decide) ?_
      have hv9 : k_b (k_isL x) = 0 := by simp [k_b, k_isL, hc1, hc7]
      exact W.zret (v := 0) hx hb hr (by rfl) (fun t ht hW => ⟨by rw [hv9], ht⟩) (fun _ h => nomatch h) dX0_isLiteral_21
    · refine lv_iload_n hx hb dX0_isLiteral_10 rfl (lv_at hl 0 rfl) ?_
      refine lv_bipush (v := 10) hx hb dX0_isLiteral_11 (by decide) ?_
      refine lv_icmp_gt (tgt := 20) hx hb dX0_isLiteral_13 (by decide) (fun hc13 => ?_) (fun hc13 => ?_)
      · refine lv_iconst (v := 0) hx hb dX0_isLiteral_20 (by decide) ?_
        have hv9 : k_b (k_isL x) = 0 := by simp [k_b, k_isL, hc1, hc7, hc13]
        exact W.zret (v := 0) hx hb hr (by rfl) (fun t ht hW => ⟨by rw [hv9], ht⟩) (fun _ h => nomatch h) dX0_isLiteral_21
      · refine lv_iconst (v := 1) hx hb dX0_isLiteral_16 (by decide) ?_
        refine lv_goto (tgt := 21) hx hb dX0_isLiteral_17 (by decide) ?_
        have hv9 : k_b (k_isL x) = 1 := by simp [k_b, k_isL, hc1, hc7, hc13]
        exact W.zret (v := 1) hx hb hr (by rfl) (fun t ht hW => ⟨by rw [hv9], ht⟩) (fun _ h => nomatch h) dX0_isLiteral_21

set_option maxHeartbeats 4000000 in
set_option maxRecDepth 100000 in
theorem kX0_isTautology (l : Launch) (x : Int32) : xs_M l yX0_isTautology wsX0_isTautology ({ frames := 0, cells := 0, slots := 0, locals := 0 }) [.int x] (k_b (k_taut x)) := by
  refine Met.ofW (cc := cX0_isTautology) (maxL := 1) (ret := (some .boolean)) (by decide) rfl ?_
  intro p e s m args below meth c s₁ B hml hv
  subst hv
  have hx := B.exec
  have hb := B.bytes
  have hr := B.returns
  have hts := atoms_spec (ws := wsX0_isTautology) B.pre
  have hown : s.vm.findClass RX0 = some m.cls := findClass_of_methodNamed B.named
  have hlocks := B.notSynchronized
  have hl := lv_entry ([.int x]) (n := 1) (Nat.le_of_ble_eq_true rfl)
  rw [lg_entry_eq]
  generalize (lg_sl ([.int x]) ++ List.replicate (1 - (lg_sl ([.int x])).length) Slot.unset).toArray = ls at hl ⊢
  have hl : lv_has ls 1 [(0, .int x)] := hl
  refine lv_iload_n hx hb dX0_isTautology_0 rfl (lv_at hl 0 rfl) ?_
  refine lv_iload_n hx hb dX0_isTautology_1 rfl (lv_at hl 0 rfl) ?_
  refine lv_bipush (v := 16) hx hb dX0_isTautology_2 (by decide) ?_
  refine lv_iushr (v := k_ush x 16) hx hb dX0_isTautology_4 rfl ?_
  refine lv_iand hx hb dX0_isTautology_5 ?_
  refine lv_if_eq (tgt := 13) hx hb dX0_isTautology_6 (by decide) (fun hc6 => ?_) (fun hc6 => ?_)
  · refine lv_iconst (v := 0) hx hb dX0_isTautology_13 (by decide) ?_
    have hv9 : k_b (k_taut x) = 0 := by simp [k_b, k_taut, hc6]
    exact W.zret (v := 0) hx hb hr (by rfl) (fun t ht hW => ⟨by rw [hv9], ht⟩) (fun _ h => nomatch h) dX0_isTautology_14
  · refine lv_iconst (v := 1) hx hb dX0_isTautology_9 (by decide) ?_
    refine lv_goto (tgt := 14) hx hb dX0_isTautology_10 (by decide) ?_
    have hv9 : k_b (k_taut x) = 1 := by simp [k_b, k_taut, hc6]
    exact W.zret (v := 1) hx hb hr (by rfl) (fun t ht hW => ⟨by rw [hv9], ht⟩) (fun _ h => nomatch h) dX0_isTautology_14
