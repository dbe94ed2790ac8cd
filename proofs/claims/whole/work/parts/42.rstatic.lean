/-! The reference: methods that touch no cell. -/
set_option maxHeartbeats 4000000 in
set_option maxRecDepth 100000 in
theorem kX1_isLiteral (l : Launch) (x : Int32) : xs_M l yX1_isLiteral wsX1_isLiteral ({ frames := 0, cells := 0, slots := 0, locals := 0 }) [.int x] (k_b (k_isL x)) := by
  refine Met.ofW (cc := cX1_isLiteral) (maxL := 1) (ret := (some .boolean)) (by decide) rfl ?_
  intro p e s m args below meth c s₁ B hml hv
  subst hv
  have hx := B.exec
  have hb := B.bytes
  have hr := B.returns
  have hts := atoms_spec (ws := wsX1_isLiteral) B.pre
  have hown : s.vm.findClass RX1 = some m.cls := findClass_of_methodNamed B.named
  have hlocks := B.notSynchronized
  have hl := lv_entry ([.int x]) (n := 1) (Nat.le_of_ble_eq_true rfl)
  rw [lg_entry_eq]
  generalize (lg_sl ([.int x]) ++ List.replicate (1 - (lg_sl ([.int x])).length) Slot.unset).toArray = ls at hl ⊢
  have hl : lv_has ls 1 [(0, .int x)] := hl
  refine lv_iload_n hx hb dX1_isLiteral_0 rfl (lv_at hl 0 rfl) ?_
  refine lv_bipush (v := (-10)) hx hb dX1_isLiteral_1 (by decide) ?_
  refine lv_icmp_lt (tgt := 20) hx hb dX1_isLiteral_3 (by decide) (fun hc3 => ?_) (fun hc3 => ?_)
  · refine lv_iconst (v := 0) hx hb dX1_isLiteral_20 (by decide) ?_
    have hv9 : k_b (k_isL x) = 0 := by simp [k_b, k_isL, hc3]
    exact W.zret (v := 0) hx hb hr (by rfl) (fun t ht hW => ⟨by rw [hv9], ht⟩) (fun _ h => nomatch h) dX1_isLiteral_21
  · refine lv_iload_n hx hb dX1_isLiteral_6 rfl (lv_at hl 0 rfl) ?_
    refine lv_bipush (v := 10) hx hb dX1_isLiteral_7 (by decide) ?_
    refine lv_icmp_gt (tgt := 20) hx hb dX1_isLiteral_9 (by decide) (fun hc9 => ?_) (fun hc9 => ?_)
    · refine lv_iconst (v := 0) hx hb dX1_isLiteral_20 (by decide) ?_
      have hv9 : k_b (k_isL x) = 0 := by simp [k_b, k_isL, hc3, hc9]
      exact W.zret (v := 0) hx hb hr (by rfl) (fun t ht hW => ⟨by rw [hv9], ht⟩) (fun _ h => nomatch h) dX1_isLiteral_21
    · refine lv_iload_n hx hb dX1_isLiteral_12 rfl (lv_at hl 0 rfl) ?_
      refine lv_if_eq (tgt := 20) hx hb dX1_isLiteral_13 (by decide) (fun hc13 => ?_) (fun hc13 => ?_)
      · refine lv_iconst (v := 0) hx hb dX1_isLiteral_20 (by decide) ?_
        have hv9 : k_b (k_isL x) = 0 := by simp [k_b, k_isL, hc3, hc9, hc13]
        exact W.zret (v := 0) hx hb hr (by rfl) (fun t ht hW => ⟨by rw [hv9], ht⟩) (fun _ h => nomatch h) dX1_isLiteral_21
      · refine lv_iconst (v := 1) hx hb dX1_isLiteral_16 (by decide) ?_
        refine lv_goto (tgt := 21) hx hb dX1_isLiteral_17 (by decide) ?_
        have hv9 : k_b (k_isL x) = 1 := by simp [k_b, k_isL, hc3, hc9, hc13]
        exact W.zret (v := 1) hx hb hr (by rfl) (fun t ht hW => ⟨by rw [hv9], ht⟩) (fun _ h => nomatch h) dX1_isLiteral_21

set_option maxHeartbeats 4000000 in
set_option maxRecDepth 100000 in
theorem kX1_bit (l : Launch) (x : Int32) : xs_M l yX1_bit wsX1_bit ({ frames := 0, cells := 0, slots := 0, locals := 0 }) [.int x] (m_bit x) := by
  refine Met.ofW (cc := cX1_bit) (maxL := 1) (ret := (some .int)) (by decide) rfl ?_
  intro p e s m args below meth c s₁ B hml hv
  subst hv
  have hx := B.exec
  have hb := B.bytes
  have hr := B.returns
  have hts := atoms_spec (ws := wsX1_bit) B.pre
  have hown : s.vm.findClass RX1 = some m.cls := findClass_of_methodNamed B.named
  have hlocks := B.notSynchronized
  have hl := lv_entry ([.int x]) (n := 1) (Nat.le_of_ble_eq_true rfl)
  rw [lg_entry_eq]
  generalize (lg_sl ([.int x]) ++ List.replicate (1 - (lg_sl ([.int x])).length) Slot.unset).toArray = ls at hl ⊢
  have hl : lv_has ls 1 [(0, .int x)] := hl
  refine lv_iload_n hx hb dX1_bit_0 rfl (lv_at hl 0 rfl) ?_
  refine lv_if_le (tgt := 10) hx hb dX1_bit_1 (by decide) (fun hc1 => ?_) (fun hc1 => ?_)
  · refine lv_iconst (v := 1) hx hb dX1_bit_10 (by decide) ?_
    refine lv_bipush (v := 16) hx hb dX1_bit_11 (by decide) ?_
    refine lv_iload_n hx hb dX1_bit_13 rfl (lv_at hl 0 rfl) ?_
    refine lv_isub hx hb dX1_bit_14 ?_
    refine lv_ishl hx hb dX1_bit_15 ?_
    have hv9 : m_bit x = 1 <<< ((16 - x) &&& 31) := by unfold m_bit; rw [if_neg (Int32.not_lt.mpr hc1)]
    exact W.iret (v := (1 <<< ((16 - x) &&& 31))) hx hb hr (fun t ht hW => ⟨by rw [hv9], ht⟩) (fun _ h => nomatch h) dX1_bit_16
  · refine lv_iconst (v := 1) hx hb dX1_bit_4 (by decide) ?_
    refine lv_iload_n hx hb dX1_bit_5 rfl (lv_at hl 0 rfl) ?_
    refine lv_ishl hx hb dX1_bit_6 ?_
    refine lv_goto (tgt := 16) hx hb dX1_bit_7 (by decide) ?_
    have hv9 : m_bit x = 1 <<< (x &&& 31) := by unfold m_bit; rw [if_pos (Int32.not_le.mp hc1)]
    exact W.iret (v := (1 <<< (x &&& 31))) hx hb hr (fun t ht hW => ⟨by rw [hv9], ht⟩) (fun _ h => nomatch h) dX1_bit_16

set_option maxHeartbeats 4000000 in
set_option maxRecDepth 100000 in
theorem kX1_ones (l : Launch) (x : Int32) : xs_M l yX1_ones wsX1_ones ({ frames := 0, cells := 0, slots := 0, locals := 0 }) [.int x] (nI (k_pc x)) := by
  refine Met.ofW (cc := cX1_ones) (maxL := 3) (ret := (some .int)) (by decide) rfl ?_
  intro p e s m args below meth c s₁ B hml hv
  subst hv
  have hx := B.exec
  have hb := B.bytes
  have hr := B.returns
  have hts := atoms_spec (ws := wsX1_ones) B.pre
  have hown : s.vm.findClass RX1 = some m.cls := findClass_of_methodNamed B.named
  have hlocks := B.notSynchronized
  have hl := lv_entry ([.int x]) (n := 3) (Nat.le_of_ble_eq_true rfl)
  rw [lg_entry_eq]
  generalize (lg_sl ([.int x]) ++ List.replicate (3 - (lg_sl ([.int x])).length) Slot.unset).toArray = ls at hl ⊢
  have hl : lv_has ls 3 [(0, .int x)] := hl
  refine lv_iconst (v := 0) hx hb dX1_ones_0 (by decide) ?_
  refine lv_istore_n (lv' := [(1, .int 0), (0, .int x)]) hx hb dX1_ones_1 rfl hl (by decide) rfl (fun ls hl => ?_)
  refine lv_iconst (v := 0) hx hb dX1_ones_2 (by decide) ?_
  refine lv_istore_n (lv' := [(2, .int 0), (1, .int 0), (0, .int x)]) hx hb dX1_ones_3 rfl hl (by decide) rfl (fun ls hl => ?_)
  refine wlr (σ := Nat × Nat) (fun (x9 : Nat × Nat) ls => match x9 with | (k, a) => lv_has ls 3 [(2, .int (nI k)), (1, .int (nI a)), (0, .int x)] ∧ k ≤ 32 ∧ q_ct (fun i => bt x i) (32 - 0) 0 0 = q_ct (fun i => bt x i) (32 - k) k a) (fun (x9 : Nat × Nat) => match x9 with | (k, a) => 32 - k) (0, 0) ⟨lv_sub hl [0, 1, 2] rfl, (Nat.zero_le _), rfl⟩ ?_
  intro x9 ls hI ih4
  obtain ⟨k, a⟩ := x9
  obtain ⟨hl, hk, hq⟩ := hI
  have hl : lv_has ls 3 [(2, .int (nI k)), (1, .int (nI a)), (0, .int x)] := hl
  refine lv_iload_n hx hb dX1_ones_4 rfl (lv_at hl 0 rfl) ?_
  refine lv_bipush (v := 32) hx hb dX1_ones_5 (by decide) ?_
  refine lv_icmp_ge (tgt := 24) hx hb dX1_ones_7 (by decide) (fun hc7 => ?_) (fun hc7 => ?_)
  · have hge : 32 ≤ k := (nI_leI (a := 32) (by decide) (by omega)).mp hc7
    refine lv_iload_n hx hb dX1_ones_24 rfl (lv_at hl 1 rfl) ?_
    have hv9 : nI (k_pc x) = nI a := by rw [show k_pc x = q_ct (fun i => bt x i) (32 - 0) 0 0 from rfl, hq, q_ct_end hge]
    exact W.iret (v := (nI a)) hx hb hr (fun t ht hW => ⟨by rw [hv9], ht⟩) (fun _ h => nomatch h) dX1_ones_25
  · have hlt : k < 32 := Nat.lt_of_not_le (fun z => hc7 ((nI_leI (a := 32) (by decide) (by omega)).mpr z))
    refine lv_iload_n hx hb dX1_ones_10 rfl (lv_at hl 1 rfl) ?_
    refine lv_iload_n hx hb dX1_ones_11 rfl (lv_at hl 2 rfl) ?_
    refine lv_iload_n hx hb dX1_ones_12 rfl (lv_at hl 0 rfl) ?_
    refine lv_iushr (v := k_ush x (nI k)) hx hb dX1_ones_13 rfl ?_
    refine lv_iconst (v := 1) hx hb dX1_ones_14 (by decide) ?_
    refine lv_iand hx hb dX1_ones_15 ?_
    refine lv_iadd hx hb dX1_ones_16 ?_
    refine lv_topi (fun z1 ez1 => ?_)
    obtain rfl : z1 = nI (if bt x k then a + 1 else a) := ez1.trans (on_step hlt)
    refine lv_istore_n (lv' := [(1, .int (nI (if bt x k then a + 1 else a))), (2, .int (nI k)), (0, .int x)]) hx hb dX1_ones_17 rfl hl (by decide) rfl (fun ls hl => ?_)
    refine lv_iinc (k := 1) (v := nI (k + 1)) (lv' := [(2, .int (nI (k + 1))), (1, .int (nI (if bt x k then a + 1 else a))), (0, .int x)]) hx hb dX1_ones_18 hl rfl (ii_1 _) (by decide) rfl (fun ls hl => ?_)
    refine lv_goto (tgt := 4) hx hb dX1_ones_21 (by decide) ?_
    exact ih4 (k + 1, (if bt x k then a + 1 else a)) _ ⟨lv_sub hl [0, 1, 2] rfl, (by omega), (hq.trans (q_ct_if hlt))⟩ (by show 32 - (k + 1) < 32 - k; omega)

set_option maxHeartbeats 4000000 in
set_option maxRecDepth 100000 in
theorem kX1_isTautology (l : Launch) (x : Int32) : xs_M l yX1_isTautology wsX1_isTautology ({ frames := 0, cells := 0, slots := 0, locals := 0 }) [.int x] (k_b (m_taut x)) := by
  refine Met.ofW (cc := cX1_isTautology) (maxL := 1) (ret := (some .boolean)) (by decide) rfl ?_
  intro p e s m args below meth c s₁ B hml hv
  subst hv
  have hx := B.exec
  have hb := B.bytes
  have hr := B.returns
  have hts := atoms_spec (ws := wsX1_isTautology) B.pre
  have hown : s.vm.findClass RX1 = some m.cls := findClass_of_methodNamed B.named
  have hlocks := B.notSynchronized
  have hl := lv_entry ([.int x]) (n := 1) (Nat.le_of_ble_eq_true rfl)
  rw [lg_entry_eq]
  generalize (lg_sl ([.int x]) ++ List.replicate (1 - (lg_sl ([.int x])).length) Slot.unset).toArray = ls at hl ⊢
  have hl : lv_has ls 1 [(0, .int x)] := hl
  refine lv_iload_n hx hb dX1_isTautology_0 rfl (lv_at hl 0 rfl) ?_
  refine lv_iload_n hx hb dX1_isTautology_1 rfl (lv_at hl 0 rfl) ?_
  refine lv_bipush (v := 16) hx hb dX1_isTautology_2 (by decide) ?_
  refine lv_ishr hx hb dX1_isTautology_4 ?_
  refine lv_iand hx hb dX1_isTautology_5 ?_
  refine lv_sipush (v := 2046) hx hb dX1_isTautology_6 (by decide) ?_
  refine lv_iand hx hb dX1_isTautology_9 ?_
  refine lv_if_eq (tgt := 17) hx hb dX1_isTautology_10 (by decide) (fun hc10 => ?_) (fun hc10 => ?_)
  · refine lv_iconst (v := 0) hx hb dX1_isTautology_17 (by decide) ?_
    have hv9 : k_b (m_taut x) = 0 := by simp [k_b, m_taut, hc10]
    exact W.zret (v := 0) hx hb hr (by rfl) (fun t ht hW => ⟨by rw [hv9], ht⟩) (fun _ h => nomatch h) dX1_isTautology_18
  · refine lv_iconst (v := 1) hx hb dX1_isTautology_13 (by decide) ?_
    refine lv_goto (tgt := 18) hx hb dX1_isTautology_14 (by decide) ?_
    have hv9 : k_b (m_taut x) = 1 := by simp [k_b, m_taut, hc10]
    exact W.zret (v := 1) hx hb hr (by rfl) (fun t ht hW => ⟨by rw [hv9], ht⟩) (fun _ h => nomatch h) dX1_isTautology_18

set_option maxHeartbeats 4000000 in
set_option maxRecDepth 100000 in
theorem kX1_isTrue (l : Launch) (x : Int32) (y : Int32) : xs_M l yX1_isTrue wsX1_isTrue ({ frames := 0, cells := 0, slots := 0, locals := 0 }) [.int x, .int y] (k_b (m_true x y)) := by
  refine Met.ofW (cc := cX1_isTrue) (maxL := 2) (ret := (some .boolean)) (by decide) rfl ?_
  intro p e s m args below meth c s₁ B hml hv
  subst hv
  have hx := B.exec
  have hb := B.bytes
  have hr := B.returns
  have hts := atoms_spec (ws := wsX1_isTrue) B.pre
  have hown : s.vm.findClass RX1 = some m.cls := findClass_of_methodNamed B.named
  have hlocks := B.notSynchronized
  have hl := lv_entry ([.int x, .int y]) (n := 2) (Nat.le_of_ble_eq_true rfl)
  rw [lg_entry_eq]
  generalize (lg_sl ([.int x, .int y]) ++ List.replicate (2 - (lg_sl ([.int x, .int y])).length) Slot.unset).toArray = ls at hl ⊢
  have hl : lv_has ls 2 [(0, .int x), (1, .int y)] := hl
  refine lv_iload_n hx hb dX1_isTrue_0 rfl (lv_at hl 0 rfl) ?_
  refine lv_iload_n hx hb dX1_isTrue_1 rfl (lv_at hl 1 rfl) ?_
  refine lv_iand hx hb dX1_isTrue_2 ?_
  refine lv_sipush (v := 2046) hx hb dX1_isTrue_3 (by decide) ?_
  refine lv_iand hx hb dX1_isTrue_6 ?_
  refine lv_if_ne (tgt := 25) hx hb dX1_isTrue_7 (by decide) (fun hc7 => ?_) (fun hc7 => ?_)
  · refine lv_iconst (v := 1) hx hb dX1_isTrue_25 (by decide) ?_
    refine lv_goto (tgt := 30) hx hb dX1_isTrue_26 (by decide) ?_
    have hv9 : k_b (m_true x y) = 1 := by simp [k_b, m_true, hc7]
    exact W.zret (v := 1) hx hb hr (by rfl) (fun t ht hW => ⟨by rw [hv9], ht⟩) (fun _ h => nomatch h) dX1_isTrue_30
  · refine lv_iload_n hx hb dX1_isTrue_10 rfl (lv_at hl 0 rfl) ?_
    refine lv_bipush (v := 16) hx hb dX1_isTrue_11 (by decide) ?_
    refine lv_ishr hx hb dX1_isTrue_13 ?_
    refine lv_iload_n hx hb dX1_isTrue_14 rfl (lv_at hl 1 rfl) ?_
    refine lv_iconst (v := (-1)) hx hb dX1_isTrue_15 (by decide) ?_
    refine xi_not hx hb dX1_isTrue_16 ?_
    refine lv_iand hx hb dX1_isTrue_17 ?_
    refine lv_sipush (v := 2046) hx hb dX1_isTrue_18 (by decide) ?_
    refine lv_iand hx hb dX1_isTrue_21 ?_
    refine lv_if_eq (tgt := 29) hx hb dX1_isTrue_22 (by decide) (fun hc22 => ?_) (fun hc22 => ?_)
    · refine lv_iconst (v := 0) hx hb dX1_isTrue_29 (by decide) ?_
      have hv9 : k_b (m_true x y) = 0 := by simp [k_b, m_true, hc7, hc22]
      exact W.zret (v := 0) hx hb hr (by rfl) (fun t ht hW => ⟨by rw [hv9], ht⟩) (fun _ h => nomatch h) dX1_isTrue_30
    · refine lv_iconst (v := 1) hx hb dX1_isTrue_25 (by decide) ?_
      refine lv_goto (tgt := 30) hx hb dX1_isTrue_26 (by decide) ?_
      have hv9 : k_b (m_true x y) = 1 := by simp [k_b, m_true, hc7, hc22]
      exact W.zret (v := 1) hx hb hr (by rfl) (fun t ht hW => ⟨by rw [hv9], ht⟩) (fun _ h => nomatch h) dX1_isTrue_30

set_option maxHeartbeats 4000000 in
set_option maxRecDepth 100000 in
theorem kX1_resolvent (l : Launch) (c9 : Int32) (d9 : Int32) (v : Int32) : xs_M l yX1_resolvent wsX1_resolvent ({ frames := 1, cells := 0, slots := 0, locals := 20 }) [.int c9, .int d9, .int v] (m_res c9 d9 v) := by
  refine Met.ofW (cc := cX1_resolvent) (maxL := 3) (ret := (some .int)) (by decide) rfl ?_
  intro p e s m args below meth c s₁ B hml hv
  subst hv
  have hx := B.exec
  have hb := B.bytes
  have hr := B.returns
  have hts := atoms_spec (ws := wsX1_resolvent) B.pre
  have hown : s.vm.findClass RX1 = some m.cls := findClass_of_methodNamed B.named
  have hlocks := B.notSynchronized
  have hl := lv_entry ([.int c9, .int d9, .int v]) (n := 3) (Nat.le_of_ble_eq_true rfl)
  rw [lg_entry_eq]
  generalize (lg_sl ([.int c9, .int d9, .int v]) ++ List.replicate (3 - (lg_sl ([.int c9, .int d9, .int v])).length) Slot.unset).toArray = ls at hl ⊢
  have hl : lv_has ls 3 [(0, .int c9), (1, .int d9), (2, .int v)] := hl
  refine lv_iload_n hx hb dX1_resolvent_0 rfl (lv_at hl 0 rfl) ?_
  refine lv_iload_n hx hb dX1_resolvent_1 rfl (lv_at hl 1 rfl) ?_
  refine lv_ior hx hb dX1_resolvent_2 ?_
  refine lv_iload_n hx hb dX1_resolvent_3 rfl (lv_at hl 2 rfl) ?_
  refine xc_s (As := [.int v]) (rest := [.int (c9 ||| d9)]) ⟨hx, hb, hml, hown, hts⟩ (kX1_bit l v) (va_cwS 1 hts (gd_S bw_293 bw_294 bw_2 bw_295) rfl rfl rfl (by decide +kernel) ⟨Nat.le_of_ble_eq_true rfl, Nat.le_of_ble_eq_true rfl⟩) rfl hl.1 rfl (Nat.le_of_ble_eq_true rfl) dX1_resolvent_4 ⟨Nat.zero_le _, Nat.zero_le _⟩ ?_
  refine lv_iload_n hx hb dX1_resolvent_7 rfl (lv_at hl 2 rfl) ?_
  refine lv_ineg hx hb dX1_resolvent_8 ?_
  refine xc_s (As := [.int (-v)]) (rest := [.int (m_bit v), .int (c9 ||| d9)]) ⟨hx, hb, hml, hown, hts⟩ (kX1_bit l (-v)) (va_cwS 1 hts (gd_S bw_293 bw_294 bw_2 bw_295) rfl rfl rfl (by decide +kernel) ⟨Nat.le_of_ble_eq_true rfl, Nat.le_of_ble_eq_true rfl⟩) rfl hl.1 rfl (Nat.le_of_ble_eq_true rfl) dX1_resolvent_9 ⟨Nat.zero_le _, Nat.zero_le _⟩ ?_
  refine lv_ior hx hb dX1_resolvent_12 ?_
  refine lv_iconst (v := (-1)) hx hb dX1_resolvent_13 (by decide) ?_
  refine xi_not hx hb dX1_resolvent_14 ?_
  refine lv_iand hx hb dX1_resolvent_15 ?_
  exact W.iret (v := (m_res c9 d9 v)) hx hb hr (fun t ht hW => ⟨rfl, ht⟩) (fun _ h => nomatch h) dX1_resolvent_16

set_option maxHeartbeats 4000000 in
set_option maxRecDepth 100000 in
theorem kX1_against (l : Launch) (c9 : Int32) (d9 : Int32) : xs_M l yX1_against wsX1_against ({ frames := 1, cells := 0, slots := 0, locals := 20 }) [.int c9, .int d9] (m_agr c9 d9) := by
  refine Met.ofW (cc := cX1_against) (maxL := 5) (ret := (some .int)) (by decide) rfl ?_
  intro p e s m args below meth c s₁ B hml hv
  subst hv
  have hx := B.exec
  have hb := B.bytes
  have hr := B.returns
  have hts := atoms_spec (ws := wsX1_against) B.pre
  have hown : s.vm.findClass RX1 = some m.cls := findClass_of_methodNamed B.named
  have hlocks := B.notSynchronized
  have hl := lv_entry ([.int c9, .int d9]) (n := 5) (Nat.le_of_ble_eq_true rfl)
  rw [lg_entry_eq]
  generalize (lg_sl ([.int c9, .int d9]) ++ List.replicate (5 - (lg_sl ([.int c9, .int d9])).length) Slot.unset).toArray = ls at hl ⊢
  have hl : lv_has ls 5 [(0, .int c9), (1, .int d9)] := hl
  refine lv_iconst (v := 1) hx hb dX1_against_0 (by decide) ?_
  refine lv_istore_n (lv' := [(2, .int 1), (0, .int c9), (1, .int d9)]) hx hb dX1_against_1 rfl hl (by decide) rfl (fun ls hl => ?_)
  refine wlr (σ := Nat) (fun (v : Nat) ls => lv_has ls 5 [(2, .int (nI v)), (0, .int c9), (1, .int d9)] ∧ v ≤ 11 ∧ q_up (fun v => m_ag c9 d9 (nI v)) (11 - 1) 1 = q_up (fun v => m_ag c9 d9 (nI v)) (11 - v) v ∧ 1 ≤ v) (fun (v : Nat) => 11 - v) 1 ⟨lv_sub hl [0, 1, 2] rfl, (by omega), rfl, Nat.le_refl _⟩ ?_
  intro v ls hI ih2
  obtain ⟨hl, hk, hq, h0⟩ := hI
  have hl : lv_has ls 5 [(2, .int (nI v)), (0, .int c9), (1, .int d9)] := hl
  refine lv_iload_n hx hb dX1_against_2 rfl (lv_at hl 0 rfl) ?_
  refine lv_bipush (v := 10) hx hb dX1_against_3 (by decide) ?_
  refine lv_icmp_gt (tgt := 72) hx hb dX1_against_5 (by decide) (fun hc5 => ?_) (fun hc5 => ?_)
  · have hge : 11 ≤ v := (nI_ltI (a := 10) (by decide) (by omega)).mp hc5
    refine lv_iconst (v := 0) hx hb dX1_against_72 (by decide) ?_
    have hv9 : m_agr c9 d9 = 0 := by
      unfold m_agr
      rw [hq, q_up_end hge]
    exact W.iret (v := 0) hx hb hr (fun t ht hW => ⟨by rw [hv9], ht⟩) (fun _ h => nomatch h) dX1_against_73
  · have hlt : v < 11 := Nat.lt_of_not_le (fun z => hc5 ((nI_ltI (a := 10) (by decide) (by omega)).mpr z))
    refine lv_iload_n hx hb dX1_against_8 rfl (lv_at hl 0 rfl) ?_
    refine xc_s (As := [.int (nI v)]) (rest := []) ⟨hx, hb, hml, hown, hts⟩ (kX1_bit l (nI v)) (va_cwS 1 hts (gd_S bw_293 bw_294 bw_2 bw_295) rfl rfl rfl (by decide +kernel) ⟨Nat.le_of_ble_eq_true rfl, Nat.le_of_ble_eq_true rfl⟩) rfl hl.1 rfl (Nat.le_of_ble_eq_true rfl) dX1_against_9 ⟨Nat.zero_le _, Nat.zero_le _⟩ ?_
    refine lv_iload_n hx hb dX1_against_12 rfl (lv_at hl 0 rfl) ?_
    refine lv_ineg hx hb dX1_against_13 ?_
    refine xc_s (As := [.int (-(nI v))]) (rest := [.int (m_bit (nI v))]) ⟨hx, hb, hml, hown, hts⟩ (kX1_bit l (-(nI v))) (va_cwS 1 hts (gd_S bw_293 bw_294 bw_2 bw_295) rfl rfl rfl (by decide +kernel) ⟨Nat.le_of_ble_eq_true rfl, Nat.le_of_ble_eq_true rfl⟩) rfl hl.1 rfl (Nat.le_of_ble_eq_true rfl) dX1_against_14 ⟨Nat.zero_le _, Nat.zero_le _⟩ ?_
    refine lv_ior hx hb dX1_against_17 ?_
    refine lv_topi (fun z1 ez1 => ?_)
    obtain rfl : z1 = k_both (nI v) := ez1.trans (mb_both v hlt h0)
    refine lv_istore_n (lv' := [(3, .int (k_both (nI v))), (2, .int (nI v)), (0, .int c9), (1, .int d9)]) hx hb dX1_against_18 rfl hl (by decide) rfl (fun ls hl => ?_)
    refine lv_iload_n hx hb dX1_against_19 rfl (lv_at hl 2 rfl) ?_
    refine lv_iload_n hx hb dX1_against_20 rfl (lv_at hl 0 rfl) ?_
    refine lv_iand hx hb dX1_against_21 ?_
    refine lv_if_eq (tgt := 44) hx hb dX1_against_22 (by decide) (fun hc22 => ?_) (fun hc22 => ?_)
    · refine lv_iconst (v := 0) hx hb dX1_against_44 (by decide) ?_
      refine lv_istore (lv' := [(4, .int 0), (3, .int (k_both (nI v))), (2, .int (nI v)), (0, .int c9), (1, .int d9)]) hx hb dX1_against_45 hl (by decide) rfl (fun ls hl => ?_)
      refine lv_iload hx hb dX1_against_47 (lv_at hl 0 rfl) ?_
      refine lv_if_eq (tgt := 66) hx hb dX1_against_49 (by decide) (fun hc49 => ?_) (fun hc49 => ?_)
      · refine lv_iinc (k := 2) (v := nI (v + 1)) (lv' := [(2, .int (nI (v + 1))), (4, .int 0), (3, .int (k_both (nI v))), (0, .int c9), (1, .int d9)]) hx hb dX1_against_66 hl rfl (ii_1 _) (by decide) rfl (fun ls hl => ?_)
        refine lv_goto (tgt := 2) hx hb dX1_against_69 (by decide) ?_
        exact ih2 (v + 1) _ ⟨lv_sub hl [0, 3, 4] rfl, (by omega), hq.trans (q_up_f hlt (by simp [m_ag, hc22, hc49])), (by omega)⟩ (by omega)
      · exact absurd rfl hc49
    · refine lv_iload_n hx hb dX1_against_25 rfl (lv_at hl 3 rfl) ?_
      refine lv_iload_n hx hb dX1_against_26 rfl (lv_at hl 0 rfl) ?_
      refine lv_iand hx hb dX1_against_27 ?_
      refine lv_if_eq (tgt := 44) hx hb dX1_against_28 (by decide) (fun hc28 => ?_) (fun hc28 => ?_)
      · refine lv_iconst (v := 0) hx hb dX1_against_44 (by decide) ?_
        refine lv_istore (lv' := [(4, .int 0), (3, .int (k_both (nI v))), (2, .int (nI v)), (0, .int c9), (1, .int d9)]) hx hb dX1_against_45 hl (by decide) rfl (fun ls hl => ?_)
        refine lv_iload hx hb dX1_against_47 (lv_at hl 0 rfl) ?_
        refine lv_if_eq (tgt := 66) hx hb dX1_against_49 (by decide) (fun hc49 => ?_) (fun hc49 => ?_)
        · refine lv_iinc (k := 2) (v := nI (v + 1)) (lv' := [(2, .int (nI (v + 1))), (4, .int 0), (3, .int (k_both (nI v))), (0, .int c9), (1, .int d9)]) hx hb dX1_against_66 hl rfl (ii_1 _) (by decide) rfl (fun ls hl => ?_)
          refine lv_goto (tgt := 2) hx hb dX1_against_69 (by decide) ?_
          exact ih2 (v + 1) _ ⟨lv_sub hl [0, 3, 4] rfl, (by omega), hq.trans (q_up_f hlt (by simp [m_ag, hc22, hc28, hc49])), (by omega)⟩ (by omega)
        · exact absurd rfl hc49
      · refine lv_iload_n hx hb dX1_against_31 rfl (lv_at hl 2 rfl) ?_
        refine lv_iload_n hx hb dX1_against_32 rfl (lv_at hl 0 rfl) ?_
        refine lv_iand hx hb dX1_against_33 ?_
        refine lv_iload_n hx hb dX1_against_34 rfl (lv_at hl 3 rfl) ?_
        refine lv_iload_n hx hb dX1_against_35 rfl (lv_at hl 0 rfl) ?_
        refine lv_iand hx hb dX1_against_36 ?_
        refine lv_icmp_eq (tgt := 44) hx hb dX1_against_37 (by decide) (fun hc37 => ?_) (fun hc37 => ?_)
        · refine lv_iconst (v := 0) hx hb dX1_against_44 (by decide) ?_
          refine lv_istore (lv' := [(4, .int 0), (3, .int (k_both (nI v))), (2, .int (nI v)), (0, .int c9), (1, .int d9)]) hx hb dX1_against_45 hl (by decide) rfl (fun ls hl => ?_)
          refine lv_iload hx hb dX1_against_47 (lv_at hl 0 rfl) ?_
          refine lv_if_eq (tgt := 66) hx hb dX1_against_49 (by decide) (fun hc49 => ?_) (fun hc49 => ?_)
          · refine lv_iinc (k := 2) (v := nI (v + 1)) (lv' := [(2, .int (nI (v + 1))), (4, .int 0), (3, .int (k_both (nI v))), (0, .int c9), (1, .int d9)]) hx hb dX1_against_66 hl rfl (ii_1 _) (by decide) rfl (fun ls hl => ?_)
            refine lv_goto (tgt := 2) hx hb dX1_against_69 (by decide) ?_
            exact ih2 (v + 1) _ ⟨lv_sub hl [0, 3, 4] rfl, (by omega), hq.trans (q_up_f hlt (by simp [m_ag, hc22, hc28, hc37, hc49])), (by omega)⟩ (by omega)
          · exact absurd rfl hc49
        · refine lv_iconst (v := 1) hx hb dX1_against_40 (by decide) ?_
          refine lv_goto (tgt := 45) hx hb dX1_against_41 (by decide) ?_
          refine lv_istore (lv' := [(4, .int 1), (3, .int (k_both (nI v))), (2, .int (nI v)), (0, .int c9), (1, .int d9)]) hx hb dX1_against_45 hl (by decide) rfl (fun ls hl => ?_)
          refine lv_iload hx hb dX1_against_47 (lv_at hl 0 rfl) ?_
          refine lv_if_eq (tgt := 66) hx hb dX1_against_49 (by decide) (fun hc49 => ?_) (fun hc49 => ?_)
          · exact absurd hc49 (by decide)
          · refine lv_iload_n hx hb dX1_against_52 rfl (lv_at hl 4 rfl) ?_
            refine lv_iload_n hx hb dX1_against_53 rfl (lv_at hl 1 rfl) ?_
            refine lv_iconst (v := (-1)) hx hb dX1_against_54 (by decide) ?_
            refine xi_not hx hb dX1_against_55 ?_
            refine lv_iand hx hb dX1_against_56 ?_
            refine lv_iload_n hx hb dX1_against_57 rfl (lv_at hl 3 rfl) ?_
            refine lv_iconst (v := (-1)) hx hb dX1_against_58 (by decide) ?_
            refine xi_not hx hb dX1_against_59 ?_
            refine lv_iand hx hb dX1_against_60 ?_
            refine lv_if_ne (tgt := 66) hx hb dX1_against_61 (by decide) (fun hc61 => ?_) (fun hc61 => ?_)
            · refine lv_iinc (k := 2) (v := nI (v + 1)) (lv' := [(2, .int (nI (v + 1))), (4, .int 1), (3, .int (k_both (nI v))), (0, .int c9), (1, .int d9)]) hx hb dX1_against_66 hl rfl (ii_1 _) (by decide) rfl (fun ls hl => ?_)
              refine lv_goto (tgt := 2) hx hb dX1_against_69 (by decide) ?_
              exact ih2 (v + 1) _ ⟨lv_sub hl [0, 3, 4] rfl, (by omega), hq.trans (q_up_f hlt (by simp [m_ag, hc22, hc28, hc37, hc49, hc61])), (by omega)⟩ (by omega)
            · refine lv_iload_n hx hb dX1_against_64 rfl (lv_at hl 2 rfl) ?_
              have hv9 : m_agr c9 d9 = nI v := by
                unfold m_agr
                rw [hq, q_up_t hlt (by simp [m_ag, hc22, hc28, hc37, hc61])]
              exact W.iret (v := (nI v)) hx hb hr (fun t ht hW => ⟨by rw [hv9], ht⟩) (fun _ h => nomatch h) dX1_against_65

set_option maxHeartbeats 4000000 in
set_option maxRecDepth 100000 in
theorem kX1_only_p (l : Launch) (v : Nat) (h1 : 1 ≤ v) (h2 : v ≤ 10) : xs_M l yX1_only wsX1_only ({ frames := 1, cells := 0, slots := 0, locals := 20 }) [.int (k_pos (nI v))] (nI v) := by
  refine Met.ofW (cc := cX1_only) (maxL := 2) (ret := (some .int)) (by decide) rfl ?_
  intro p e s m args below meth c s₁ B hml hv
  subst hv
  have hx := B.exec
  have hb := B.bytes
  have hr := B.returns
  have hts := atoms_spec (ws := wsX1_only) B.pre
  have hown : s.vm.findClass RX1 = some m.cls := findClass_of_methodNamed B.named
  have hlocks := B.notSynchronized
  have hl := lv_entry ([.int (k_pos (nI v))]) (n := 2) (Nat.le_of_ble_eq_true rfl)
  rw [lg_entry_eq]
  generalize (lg_sl ([.int (k_pos (nI v))]) ++ List.replicate (2 - (lg_sl ([.int (k_pos (nI v))])).length) Slot.unset).toArray = ls at hl ⊢
  have hl : lv_has ls 2 [(0, .int (k_pos (nI v)))] := hl
  refine lv_iconst (v := 1) hx hb dX1_only_0 (by decide) ?_
  refine lv_istore_n (lv' := [(1, .int 1), (0, .int (k_pos (nI v)))]) hx hb dX1_only_1 rfl hl (by decide) rfl (fun ls hl => ?_)
  refine wlr (σ := Nat) (fun (k : Nat) ls => lv_has ls 2 [(1, .int (nI k)), (0, .int (k_pos (nI v)))] ∧ 1 ≤ k ∧ k ≤ v) (fun (k : Nat) => v - k) 1 ⟨lv_sub hl [0, 1] rfl, (Nat.le_refl _), h1⟩ ?_
  intro k ls hI ih2
  obtain ⟨hl, h0, hk⟩ := hI
  have hl : lv_has ls 2 [(1, .int (nI k)), (0, .int (k_pos (nI v)))] := hl
  refine lv_iload_n hx hb dX1_only_2 rfl (lv_at hl 0 rfl) ?_
  refine xc_s (As := [.int (nI k)]) (rest := []) ⟨hx, hb, hml, hown, hts⟩ (kX1_bit l (nI k)) (va_cwS 1 hts (gd_S bw_293 bw_294 bw_2 bw_295) rfl rfl rfl (by decide +kernel) ⟨Nat.le_of_ble_eq_true rfl, Nat.le_of_ble_eq_true rfl⟩) rfl hl.1 rfl (Nat.le_of_ble_eq_true rfl) dX1_only_3 ⟨Nat.zero_le _, Nat.zero_le _⟩ ?_
  refine lv_iload_n hx hb dX1_only_6 rfl (lv_at hl 1 rfl) ?_
  refine lv_icmp_eq (tgt := 25) hx hb dX1_only_7 (by decide) (fun hc7 => ?_) (fun hc7 => ?_)
  · have hkv : k = v := (mb_pp k (by omega) h0 v (by omega) h1).mp hc7
    refine lv_iload_n hx hb dX1_only_25 rfl (lv_at hl 0 rfl) ?_
    refine xc_s (As := [.int (nI k)]) (rest := []) ⟨hx, hb, hml, hown, hts⟩ (kX1_bit l (nI k)) (va_cwS 1 hts (gd_S bw_293 bw_294 bw_2 bw_295) rfl rfl rfl (by decide +kernel) ⟨Nat.le_of_ble_eq_true rfl, Nat.le_of_ble_eq_true rfl⟩) rfl hl.1 rfl (Nat.le_of_ble_eq_true rfl) dX1_only_26 ⟨Nat.zero_le _, Nat.zero_le _⟩ ?_
    refine lv_iload_n hx hb dX1_only_29 rfl (lv_at hl 1 rfl) ?_
    refine lv_icmp_ne (tgt := 37) hx hb dX1_only_30 (by decide) (fun hc30 => ?_) (fun hc30 => ?_)
    · exact absurd hc7 hc30
    · refine lv_iload_n hx hb dX1_only_33 rfl (lv_at hl 0 rfl) ?_
      refine lv_goto (tgt := 39) hx hb dX1_only_34 (by decide) ?_
      have hv9 : nI v = nI k := by rw [hkv]
      exact W.iret (v := (nI k)) hx hb hr (fun t ht hW => ⟨by rw [hv9], ht⟩) (fun _ h => nomatch h) dX1_only_39
  · refine lv_iload_n hx hb dX1_only_10 rfl (lv_at hl 0 rfl) ?_
    refine lv_ineg hx hb dX1_only_11 ?_
    refine xc_s (As := [.int (-(nI k))]) (rest := []) ⟨hx, hb, hml, hown, hts⟩ (kX1_bit l (-(nI k))) (va_cwS 1 hts (gd_S bw_293 bw_294 bw_2 bw_295) rfl rfl rfl (by decide +kernel) ⟨Nat.le_of_ble_eq_true rfl, Nat.le_of_ble_eq_true rfl⟩) rfl hl.1 rfl (Nat.le_of_ble_eq_true rfl) dX1_only_12 ⟨Nat.zero_le _, Nat.zero_le _⟩ ?_
    refine lv_iload_n hx hb dX1_only_15 rfl (lv_at hl 1 rfl) ?_
    refine lv_icmp_eq (tgt := 25) hx hb dX1_only_16 (by decide) (fun hc16 => ?_) (fun hc16 => ?_)
    · exact absurd hc16 (mb_np k (by omega) h0 v (by omega) h1)
    · refine lv_iinc (k := 0) (v := nI (k + 1)) (lv' := [(1, .int (nI (k + 1))), (0, .int (k_pos (nI v)))]) hx hb dX1_only_19 hl rfl (ii_1 _) (by decide) rfl (fun ls hl => ?_)
      refine lv_goto (tgt := 2) hx hb dX1_only_22 (by decide) ?_
      exact ih2 (k + 1) _ ⟨lv_sub hl [0, 1] rfl, (by omega), (by have z : ¬ k = v := fun z => hc7 ((mb_pp k (by omega) h0 v (by omega) h1).mpr z); omega)⟩ (by have z : ¬ k = v := fun z => hc7 ((mb_pp k (by omega) h0 v (by omega) h1).mpr z); omega)

set_option maxHeartbeats 4000000 in
set_option maxRecDepth 100000 in
theorem kX1_only_n (l : Launch) (v : Nat) (h1 : 1 ≤ v) (h2 : v ≤ 10) : xs_M l yX1_only wsX1_only ({ frames := 1, cells := 0, slots := 0, locals := 20 }) [.int (k_neg (nI v))] (-(nI v)) := by
  refine Met.ofW (cc := cX1_only) (maxL := 2) (ret := (some .int)) (by decide) rfl ?_
  intro p e s m args below meth c s₁ B hml hv
  subst hv
  have hx := B.exec
  have hb := B.bytes
  have hr := B.returns
  have hts := atoms_spec (ws := wsX1_only) B.pre
  have hown : s.vm.findClass RX1 = some m.cls := findClass_of_methodNamed B.named
  have hlocks := B.notSynchronized
  have hl := lv_entry ([.int (k_neg (nI v))]) (n := 2) (Nat.le_of_ble_eq_true rfl)
  rw [lg_entry_eq]
  generalize (lg_sl ([.int (k_neg (nI v))]) ++ List.replicate (2 - (lg_sl ([.int (k_neg (nI v))])).length) Slot.unset).toArray = ls at hl ⊢
  have hl : lv_has ls 2 [(0, .int (k_neg (nI v)))] := hl
  refine lv_iconst (v := 1) hx hb dX1_only_0 (by decide) ?_
  refine lv_istore_n (lv' := [(1, .int 1), (0, .int (k_neg (nI v)))]) hx hb dX1_only_1 rfl hl (by decide) rfl (fun ls hl => ?_)
  refine wlr (σ := Nat) (fun (k : Nat) ls => lv_has ls 2 [(1, .int (nI k)), (0, .int (k_neg (nI v)))] ∧ 1 ≤ k ∧ k ≤ v) (fun (k : Nat) => v - k) 1 ⟨lv_sub hl [0, 1] rfl, (Nat.le_refl _), h1⟩ ?_
  intro k ls hI ih2
  obtain ⟨hl, h0, hk⟩ := hI
  have hl : lv_has ls 2 [(1, .int (nI k)), (0, .int (k_neg (nI v)))] := hl
  refine lv_iload_n hx hb dX1_only_2 rfl (lv_at hl 0 rfl) ?_
  refine xc_s (As := [.int (nI k)]) (rest := []) ⟨hx, hb, hml, hown, hts⟩ (kX1_bit l (nI k)) (va_cwS 1 hts (gd_S bw_293 bw_294 bw_2 bw_295) rfl rfl rfl (by decide +kernel) ⟨Nat.le_of_ble_eq_true rfl, Nat.le_of_ble_eq_true rfl⟩) rfl hl.1 rfl (Nat.le_of_ble_eq_true rfl) dX1_only_3 ⟨Nat.zero_le _, Nat.zero_le _⟩ ?_
  refine lv_iload_n hx hb dX1_only_6 rfl (lv_at hl 1 rfl) ?_
  refine lv_icmp_eq (tgt := 25) hx hb dX1_only_7 (by decide) (fun hc7 => ?_) (fun hc7 => ?_)
  · exact absurd hc7 (mb_pn k (by omega) h0 v (by omega) h1)
  · refine lv_iload_n hx hb dX1_only_10 rfl (lv_at hl 0 rfl) ?_
    refine lv_ineg hx hb dX1_only_11 ?_
    refine xc_s (As := [.int (-(nI k))]) (rest := []) ⟨hx, hb, hml, hown, hts⟩ (kX1_bit l (-(nI k))) (va_cwS 1 hts (gd_S bw_293 bw_294 bw_2 bw_295) rfl rfl rfl (by decide +kernel) ⟨Nat.le_of_ble_eq_true rfl, Nat.le_of_ble_eq_true rfl⟩) rfl hl.1 rfl (Nat.le_of_ble_eq_true rfl) dX1_only_12 ⟨Nat.zero_le _, Nat.zero_le _⟩ ?_
    refine lv_iload_n hx hb dX1_only_15 rfl (lv_at hl 1 rfl) ?_
    refine lv_icmp_eq (tgt := 25) hx hb dX1_only_16 (by decide) (fun hc16 => ?_) (fun hc16 => ?_)
    · have hkv : k = v := (mb_nn k (by omega) h0 v (by omega) h1).mp hc16
      refine lv_iload_n hx hb dX1_only_25 rfl (lv_at hl 0 rfl) ?_
      refine xc_s (As := [.int (nI k)]) (rest := []) ⟨hx, hb, hml, hown, hts⟩ (kX1_bit l (nI k)) (va_cwS 1 hts (gd_S bw_293 bw_294 bw_2 bw_295) rfl rfl rfl (by decide +kernel) ⟨Nat.le_of_ble_eq_true rfl, Nat.le_of_ble_eq_true rfl⟩) rfl hl.1 rfl (Nat.le_of_ble_eq_true rfl) dX1_only_26 ⟨Nat.zero_le _, Nat.zero_le _⟩ ?_
      refine lv_iload_n hx hb dX1_only_29 rfl (lv_at hl 1 rfl) ?_
      refine lv_icmp_ne (tgt := 37) hx hb dX1_only_30 (by decide) (fun hc30 => ?_) (fun hc30 => ?_)
      · refine lv_iload_n hx hb dX1_only_37 rfl (lv_at hl 0 rfl) ?_
        refine lv_ineg hx hb dX1_only_38 ?_
        have hv9 : -(nI v) = -(nI k) := by rw [hkv]
        exact W.iret (v := (-(nI k))) hx hb hr (fun t ht hW => ⟨by rw [hv9], ht⟩) (fun _ h => nomatch h) dX1_only_39
      · exact absurd hc30 (mb_pn k (by omega) h0 v (by omega) h1)
    · refine lv_iinc (k := 0) (v := nI (k + 1)) (lv' := [(1, .int (nI (k + 1))), (0, .int (k_neg (nI v)))]) hx hb dX1_only_19 hl rfl (ii_1 _) (by decide) rfl (fun ls hl => ?_)
      refine lv_goto (tgt := 2) hx hb dX1_only_22 (by decide) ?_
      exact ih2 (k + 1) _ ⟨lv_sub hl [0, 1] rfl, (by omega), (by have z : ¬ k = v := fun z => hc16 ((mb_nn k (by omega) h0 v (by omega) h1).mpr z); omega)⟩ (by have z : ¬ k = v := fun z => hc16 ((mb_nn k (by omega) h0 v (by omega) h1).mpr z); omega)
