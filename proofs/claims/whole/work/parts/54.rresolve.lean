/-! The reference: resolve. -/
set_option maxHeartbeats 4000000 in
set_option maxRecDepth 100000 in
theorem kX1_resolve (l : Launch) (D : va_G) (q : Nat → Nat) (cA : ClassId) (S : MS) (hok : okM S) (v : Nat) (h1 : 1 ≤ v) (h2 : v ≤ 10) (hg : g_cl (vML S)) (hn9 : yn S ≤ 40) (sz : Nat) : xw_Mi l yX1_resolve wsX1_resolve ({ frames := 2, cells := 0, slots := 0, locals := 43 }) D vwCl [(cA, .int)] [.ref (q 0), .int (nI v)] (wM q cA S) sz (fun (r : Int32) (u : MS) => r = nI (m_g2 (vML S) (nI v) (yn S) 0 []).length ∧ yn u = yn S + (m_g2 (vML S) (nI v) (yn S) 0 []).length ∧ ym u = q_mm (ym S) (m_g2 (vML S) (nI v) (yn S) 0 []) ∧ vML u = q_app (vML S) (ym S) (m_g2 (vML S) (nI v) (yn S) 0 []) ∧ u = (yk (yd S) (yn u) (ym u) (yh S) (yg S) (yt S) (yth S) (yse u) (ynu u) (yes S) (yel S) (ygi S))) (wM q cA) := by
  refine Met.ofW (cc := cX1_resolve) (maxL := 6) (ret := (some .int)) (by decide) rfl ?_
  intro p e s m args below meth c s₁ B hml hv
  obtain ⟨rfl, hsz, hP, hK, hD0⟩ := hv
  subst hsz
  have hD := hD0.self (sz := s.heap.size)
  have hA : ∀ z, s.heap.size ≤ z → va_A (wM q cA S) s.heap.size z := fun z h => Or.inr h
  have hS : va_S (va_A (wM q cA S) s.heap.size) s.heap s.heap [] := va_S.rf
  obtain ⟨hn40, hh200, hg100⟩ := id hok
  have hx := B.exec
  have hb := B.bytes
  have hr := B.returns
  have hts := atoms_spec (ws := wsX1_resolve) B.pre
  have hown : s.vm.findClass RX1 = some m.cls := findClass_of_methodNamed B.named
  have hlocks := B.notSynchronized
  have hinX1 : ∀ w ∈ u_ws RX1 TX1 12, w ∈ wsX1_resolve := fun w h => List.mem_cons_of_mem _ (bw_X1 w h)
  have hf7 := hts _ (List.mem_cons_of_mem _ bw_260)
  have hf33 := hts _ (List.mem_cons_of_mem _ bw_259)
  have hl := lv_entry ([.ref (q 0), .int (nI v)]) (n := 6) (Nat.le_of_ble_eq_true rfl)
  rw [lg_entry_eq]
  generalize (lg_sl ([.ref (q 0), .int (nI v)]) ++ List.replicate (6 - (lg_sl ([.ref (q 0), .int (nI v)])).length) Slot.unset).toArray = ls at hl ⊢
  have hl : lv_has ls 6 [(0, .ref (q 0)), (1, .int (nI v))] := hl
  refine lv_aload_n hx hb dX1_resolve_0 rfl (lv_at hl 0 rfl) ?_
  refine va_get (v := .int (nI (yn S))) hx hb hts hinX1 hown hK hP 0 rfl rfl 1 (by decide) hf33 (fun _ h9 => h9) rfl dX1_resolve_1 ?_
  refine lv_istore_n (lv' := [(2, .int (nI (yn S))), (0, .ref (q 0)), (1, .int (nI v))]) hx hb dX1_resolve_4 rfl hl (by decide) rfl (fun ls hl => ?_)
  refine lv_iconst (v := 0) hx hb dX1_resolve_5 (by decide) ?_
  refine lv_istore_n (lv' := [(3, .int 0), (2, .int (nI (yn S))), (0, .ref (q 0)), (1, .int (nI v))]) hx hb dX1_resolve_6 rfl hl (by decide) rfl (fun ls hl => ?_)
  refine wlw (σ := Nat × (List Int32) × (Nat → Int32) × (Nat → Int32)) (fun (x9 : Nat × (List Int32) × (Nat → Int32) × (Nat → Int32)) (H : Heap) (locs : List Loc) ls => match x9 with | (k, R, f, g) => lv_has ls 6 [(3, .int (nI k)), (2, .int (nI (yn S))), (0, .ref (q 0)), (1, .int (nI v))] ∧ va_P D vwCl (wM q cA (yk (yd S) (yn S + R.length) (q_mm (ym S) R) (yh S) (yg S) (yt S) (yth S) f g (yes S) (yel S) (ygi S))) H ∧ va_D (va_A (wM q cA S) s.heap.size) (wM q cA (yk (yd S) (yn S + R.length) (q_mm (ym S) R) (yh S) (yg S) (yt S) (yth S) f g (yes S) (yel S) (ygi S))) ∧ va_S (va_A (wM q cA S) s.heap.size) s.heap H locs ∧ k ≤ yn S ∧ cl_of (yn S + R.length) f g = q_app (vML S) (ym S) R ∧ yn S + R.length ≤ 90 ∧ m_g2 (vML S) (nI v) (yn S - 0) 0 [] = m_g2 (vML S) (nI v) (yn S - k) k R) (fun (x9 : Nat × (List Int32) × (Nat → Int32) × (Nat → Int32)) => match x9 with | (k, R, f, g) => yn S - k) (0, [], yse S, ynu S) ⟨lv_sub hl [0, 1, 2, 3] rfl, hP, hD, hS, (Nat.zero_le _), rfl, (by show yn S + 0 ≤ 90; omega), rfl⟩ ?_
  intro x9 H locs ls hI ih7
  obtain ⟨k, R, f, g⟩ := x9
  obtain ⟨hl, hP, hD, hS, hk, hc, hrl, hq⟩ := hI
  have hl : lv_has ls 6 [(3, .int (nI k)), (2, .int (nI (yn S))), (0, .ref (q 0)), (1, .int (nI v))] := hl
  refine lv_iload_n hx hb dX1_resolve_7 rfl (lv_at hl 0 rfl) ?_
  refine lv_iload_n hx hb dX1_resolve_8 rfl (lv_at hl 1 rfl) ?_
  refine lv_icmp_ge (tgt := 95) hx hb dX1_resolve_9 (by decide) (fun hc9 => ?_) (fun hc9 => ?_)
  · have hge : yn S ≤ k := (nI_leI (by omega) (by omega)).mp hc9
    refine lv_aload_n hx hb dX1_resolve_95 rfl (lv_at hl 2 rfl) ?_
    refine va_get (v := .int (nI (yn S + R.length))) hx hb hts hinX1 hown hK hP 0 rfl rfl 1 (by decide) hf33 (fun _ h9 => h9) rfl dX1_resolve_96 ?_
    refine lv_iload_n hx hb dX1_resolve_99 rfl (lv_at hl 1 rfl) ?_
    refine lv_isub hx hb dX1_resolve_100 ?_
    refine lv_topi (fun z1 ez1 => ?_)
    obtain rfl : z1 = nI R.length := ez1.trans (by rw [pk_sub (by omega)]; congr 1; omega)
    have hpo : nI R.length = nI (m_g2 (vML S) (nI v) (yn S) 0 []).length ∧ yn (yk (yd S) (yn S + R.length) (q_mm (ym S) R) (yh S) (yg S) (yt S) (yth S) f g (yes S) (yel S) (ygi S)) = yn S + (m_g2 (vML S) (nI v) (yn S) 0 []).length ∧ ym (yk (yd S) (yn S + R.length) (q_mm (ym S) R) (yh S) (yg S) (yt S) (yth S) f g (yes S) (yel S) (ygi S)) = q_mm (ym S) (m_g2 (vML S) (nI v) (yn S) 0 []) ∧ vML (yk (yd S) (yn S + R.length) (q_mm (ym S) R) (yh S) (yg S) (yt S) (yth S) f g (yes S) (yel S) (ygi S)) = q_app (vML S) (ym S) (m_g2 (vML S) (nI v) (yn S) 0 []) ∧ (yk (yd S) (yn S + R.length) (q_mm (ym S) R) (yh S) (yg S) (yt S) (yth S) f g (yes S) (yel S) (ygi S)) = (yk (yd S) (yn (yk (yd S) (yn S + R.length) (q_mm (ym S) R) (yh S) (yg S) (yt S) (yth S) f g (yes S) (yel S) (ygi S))) (ym (yk (yd S) (yn S + R.length) (q_mm (ym S) R) (yh S) (yg S) (yt S) (yth S) f g (yes S) (yel S) (ygi S))) (yh S) (yg S) (yt S) (yth S) (yse (yk (yd S) (yn S + R.length) (q_mm (ym S) R) (yh S) (yg S) (yt S) (yth S) f g (yes S) (yel S) (ygi S))) (ynu (yk (yd S) (yn S + R.length) (q_mm (ym S) R) (yh S) (yg S) (yt S) (yth S) f g (yes S) (yel S) (ygi S))) (yes S) (yel S) (ygi S)) := by
      have e9 : m_g2 (vML S) (nI v) (yn S) 0 [] = R := hq.trans (mg2_end hge)
      rw [e9]
      exact ⟨rfl, rfl, rfl, hc, rfl⟩
    exact W.iret (v := (nI R.length)) hx hb hr (fun t ht hW => ⟨⟨(nI R.length), (yk (yd S) (yn S + R.length) (q_mm (ym S) R) (yh S) (yg S) (yt S) (yth S) f g (yes S) (yel S) (ygi S)), rfl, hpo, by rw [ht]; exact hP, va_K.moved hW.alike hK, hD⟩, hS.F ht⟩) hS.2.2 dX1_resolve_101
  · have hlt : k < yn S := Nat.lt_of_not_le (fun z => hc9 ((nI_leI (by omega) (by omega)).mpr z))
    refine lv_iconst (v := 0) hx hb dX1_resolve_12 (by decide) ?_
    refine lv_istore (lv' := [(4, .int 0), (3, .int (nI k)), (2, .int (nI (yn S))), (0, .ref (q 0)), (1, .int (nI v))]) hx hb dX1_resolve_13 hl (by decide) rfl (fun ls hl => ?_)
    refine wlw (σ := Nat × (List Int32) × (Nat → Int32) × (Nat → Int32)) (fun (x9 : Nat × (List Int32) × (Nat → Int32) × (Nat → Int32)) (H : Heap) (locs : List Loc) ls => match x9 with | (j, R1, f1, g1) => lv_has ls 6 [(4, .int (nI j)), (3, .int (nI k)), (2, .int (nI (yn S))), (0, .ref (q 0)), (1, .int (nI v))] ∧ va_P D vwCl (wM q cA (yk (yd S) (yn S + R1.length) (q_mm (ym S) R1) (yh S) (yg S) (yt S) (yth S) f1 g1 (yes S) (yel S) (ygi S))) H ∧ va_D (va_A (wM q cA S) s.heap.size) (wM q cA (yk (yd S) (yn S + R1.length) (q_mm (ym S) R1) (yh S) (yg S) (yt S) (yth S) f1 g1 (yes S) (yel S) (ygi S))) ∧ va_S (va_A (wM q cA S) s.heap.size) s.heap H locs ∧ j ≤ yn S ∧ cl_of (yn S + R1.length) f1 g1 = q_app (vML S) (ym S) R1 ∧ yn S + R1.length ≤ 90 ∧ m_g1 (vML S) (yse S k) (nI v) (yn S - 0) 0 R = m_g1 (vML S) (yse S k) (nI v) (yn S - j) j R1) (fun (x9 : Nat × (List Int32) × (Nat → Int32) × (Nat → Int32)) => match x9 with | (j, R1, f1, g1) => yn S - j) (0, R, f, g) ⟨lv_sub hl [0, 1, 2, 3, 4] rfl, hP, hD, hS, (Nat.zero_le _), hc, hrl, rfl⟩ ?_
    intro x9 H locs ls hI ih15
    obtain ⟨j, R1, f1, g1⟩ := x9
    obtain ⟨hl, hP, hD, hS, hj, hc1, hr1, hq2⟩ := hI
    have hl : lv_has ls 6 [(4, .int (nI j)), (3, .int (nI k)), (2, .int (nI (yn S))), (0, .ref (q 0)), (1, .int (nI v))] := hl
    refine lv_iload hx hb dX1_resolve_15 (lv_at hl 0 rfl) ?_
    refine lv_iload_n hx hb dX1_resolve_17 rfl (lv_at hl 2 rfl) ?_
    refine lv_icmp_ge (tgt := 89) hx hb dX1_resolve_18 (by decide) (fun hc18 => ?_) (fun hc18 => ?_)
    · have hge2 : yn S ≤ j := (nI_leI (by omega) (by omega)).mp hc18
      refine lv_iinc (k := 1) (v := nI (k + 1)) (lv' := [(3, .int (nI (k + 1))), (4, .int (nI j)), (2, .int (nI (yn S))), (0, .ref (q 0)), (1, .int (nI v))]) hx hb dX1_resolve_89 hl rfl (ii_1 _) (by decide) rfl (fun ls hl => ?_)
      refine lv_goto (tgt := 7) hx hb dX1_resolve_92 (by decide) ?_
      exact ih7 (k + 1, R1, f1, g1) _ _ _ ⟨lv_sub hl [0, 2, 3, 4] rfl, hP, hD, hS, (by omega), hc1, hr1, (by rw [hq, mg2_un hlt, q_set_of hlt, vML_len]; rw [show m_g1 (vML S) (yse S k) (nI v) (yn S) 0 R = m_g1 (vML S) (yse S k) (nI v) (yn S - 0) 0 R from rfl, hq2, mg1_end hge2])⟩ (by show yn S - (k + 1) < yn S - k; omega)
    · have hlt2 : j < yn S := Nat.lt_of_not_le (fun z => hc18 ((nI_leI (by omega) (by omega)).mpr z))
      have rk := app_rd hc1 (k := k) (by rw [vML_len]; exact hlt)
      have rj := app_rd hc1 (k := j) (by rw [vML_len]; exact hlt2)
      have hsk : q_set (vML S) k = yse S k := q_set_of hlt
      have hsj : q_set (vML S) j = yse S j := q_set_of hlt2
      rw [hsk] at rk
      rw [hsj] at rj
      have gk := g_cl_at hg (k := k) (by rw [vML_len]; exact hlt)
      have gj := g_cl_at hg (k := j) (by rw [vML_len]; exact hlt2)
      rw [hsk] at gk
      rw [hsj] at gj
      refine lv_aload_n hx hb dX1_resolve_21 rfl (lv_at hl 3 rfl) ?_
      refine va_get (v := .ref (q 1)) hx hb hts hinX1 hown hK hP 0 rfl rfl 2 (by decide) hf7 (fun _ h9 => h9) rfl dX1_resolve_22 ?_
      refine lv_iload_n hx hb dX1_resolve_25 rfl (lv_at hl 1 rfl) ?_
      refine xa_ld hx hb hK hP 1 0 rfl rfl k (by omega) (by first | decide | assumption) dX1_resolve_26 ?_
      refine lv_iload_n hx hb dX1_resolve_27 rfl (lv_at hl 4 rfl) ?_
      refine xc_s (As := [.int (nI v)]) (rest := [.int (f1 k)]) ⟨hx, hb, hml, hown, hts⟩ (kX1_bit l (nI v)) (va_cwS 1 hts (gd_S bw_293 bw_294 bw_2 bw_295) rfl rfl rfl (by decide +kernel) ⟨Nat.le_of_ble_eq_true rfl, Nat.le_of_ble_eq_true rfl⟩) rfl hl.1 rfl (Nat.le_of_ble_eq_true rfl) dX1_resolve_28 ⟨Nat.zero_le _, Nat.zero_le _⟩ ?_
      refine lv_iand hx hb dX1_resolve_31 ?_
      refine lv_if_eq (tgt := 83) hx hb dX1_resolve_32 (by decide) (fun hc32 => ?_) (fun hc32 => ?_)
      · rw [rk.2, m_bit_pos v (by omega) h1] at hc32
        have hnot : ¬ (¬ yse S k &&& k_pos (nI v) = 0 ∧ ¬ q_set (vML S) j &&& k_neg (nI v) = 0 ∧ (vML S).length + R1.length < 90 ∧ q_can (vML S) (k_res (yse S k) (q_set (vML S) j) (k_both (nI v))) = true ∧ k_res (yse S k) (q_set (vML S) j) (k_both (nI v)) ∉ R1) := fun z => z.1 hc32
        refine lv_iinc (k := 0) (v := nI (j + 1)) (lv' := [(4, .int (nI (j + 1))), (3, .int (nI k)), (2, .int (nI (yn S))), (0, .ref (q 0)), (1, .int (nI v))]) hx hb dX1_resolve_83 hl rfl (ii_1 _) (by decide) rfl (fun ls hl => ?_)
        refine lv_goto (tgt := 15) hx hb dX1_resolve_86 (by decide) ?_
        exact ih15 (j + 1, R1, f1, g1) _ _ _ ⟨lv_sub hl [0, 1, 2, 3, 4] rfl, hP, hD, hS, (by omega), hc1, hr1, (by rw [hq2, mg1_un hlt2, if_neg hnot])⟩ (by show yn S - (j + 1) < yn S - j; omega)
      · rw [rk.2, m_bit_pos v (by omega) h1] at hc32
        refine lv_aload_n hx hb dX1_resolve_35 rfl (lv_at hl 3 rfl) ?_
        refine va_get (v := .ref (q 1)) hx hb hts hinX1 hown hK hP 0 rfl rfl 2 (by decide) hf7 (fun _ h9 => h9) rfl dX1_resolve_36 ?_
        refine lv_iload hx hb dX1_resolve_39 (lv_at hl 0 rfl) ?_
        refine xa_ld hx hb hK hP 1 0 rfl rfl j (by omega) (by first | decide | assumption) dX1_resolve_41 ?_
        refine lv_iload_n hx hb dX1_resolve_42 rfl (lv_at hl 4 rfl) ?_
        refine lv_ineg hx hb dX1_resolve_43 ?_
        refine xc_s (As := [.int (-(nI v))]) (rest := [.int (f1 j)]) ⟨hx, hb, hml, hown, hts⟩ (kX1_bit l (-(nI v))) (va_cwS 1 hts (gd_S bw_293 bw_294 bw_2 bw_295) rfl rfl rfl (by decide +kernel) ⟨Nat.le_of_ble_eq_true rfl, Nat.le_of_ble_eq_true rfl⟩) rfl hl.1 rfl (Nat.le_of_ble_eq_true rfl) dX1_resolve_44 ⟨Nat.zero_le _, Nat.zero_le _⟩ ?_
        refine lv_iand hx hb dX1_resolve_47 ?_
        refine lv_if_eq (tgt := 83) hx hb dX1_resolve_48 (by decide) (fun hc48 => ?_) (fun hc48 => ?_)
        · rw [rj.2, m_bit_neg v (by omega) h1] at hc48
          have hnot : ¬ (¬ yse S k &&& k_pos (nI v) = 0 ∧ ¬ q_set (vML S) j &&& k_neg (nI v) = 0 ∧ (vML S).length + R1.length < 90 ∧ q_can (vML S) (k_res (yse S k) (q_set (vML S) j) (k_both (nI v))) = true ∧ k_res (yse S k) (q_set (vML S) j) (k_both (nI v)) ∉ R1) := fun z => z.2.1 (by rw [hsj]; exact hc48)
          refine lv_iinc (k := 0) (v := nI (j + 1)) (lv' := [(4, .int (nI (j + 1))), (3, .int (nI k)), (2, .int (nI (yn S))), (0, .ref (q 0)), (1, .int (nI v))]) hx hb dX1_resolve_83 hl rfl (ii_1 _) (by decide) rfl (fun ls hl => ?_)
          refine lv_goto (tgt := 15) hx hb dX1_resolve_86 (by decide) ?_
          exact ih15 (j + 1, R1, f1, g1) _ _ _ ⟨lv_sub hl [0, 1, 2, 3, 4] rfl, hP, hD, hS, (by omega), hc1, hr1, (by rw [hq2, mg1_un hlt2, if_neg hnot])⟩ (by show yn S - (j + 1) < yn S - j; omega)
        · rw [rj.2, m_bit_neg v (by omega) h1] at hc48
          refine lv_aload_n hx hb dX1_resolve_51 rfl (lv_at hl 3 rfl) ?_
          refine va_get (v := .int (nI (yn S + R1.length))) hx hb hts hinX1 hown hK hP 0 rfl rfl 1 (by decide) hf33 (fun _ h9 => h9) rfl dX1_resolve_52 ?_
          refine lv_bipush (v := 90) hx hb dX1_resolve_55 (by decide) ?_
          refine lv_icmp_ge (tgt := 83) hx hb dX1_resolve_57 (by decide) (fun hc57 => ?_) (fun hc57 => ?_)
          · have h57 : ¬ yn S + R1.length < 90 := fun z => absurd (show (90 : Int32) ≤ nI (yn S + R1.length) from hc57) (nI_ge z (by decide))
            have hnot : ¬ (¬ yse S k &&& k_pos (nI v) = 0 ∧ ¬ q_set (vML S) j &&& k_neg (nI v) = 0 ∧ (vML S).length + R1.length < 90 ∧ q_can (vML S) (k_res (yse S k) (q_set (vML S) j) (k_both (nI v))) = true ∧ k_res (yse S k) (q_set (vML S) j) (k_both (nI v)) ∉ R1) := fun z => h57 (by rw [← vML_len S]; exact z.2.2.1)
            refine lv_iinc (k := 0) (v := nI (j + 1)) (lv' := [(4, .int (nI (j + 1))), (3, .int (nI k)), (2, .int (nI (yn S))), (0, .ref (q 0)), (1, .int (nI v))]) hx hb dX1_resolve_83 hl rfl (ii_1 _) (by decide) rfl (fun ls hl => ?_)
            refine lv_goto (tgt := 15) hx hb dX1_resolve_86 (by decide) ?_
            exact ih15 (j + 1, R1, f1, g1) _ _ _ ⟨lv_sub hl [0, 1, 2, 3, 4] rfl, hP, hD, hS, (by omega), hc1, hr1, (by rw [hq2, mg1_un hlt2, if_neg hnot])⟩ (by show yn S - (j + 1) < yn S - j; omega)
          · have h57 : yn S + R1.length < 90 := Nat.lt_of_not_le (fun z => hc57 (show (90 : Int32) ≤ nI (yn S + R1.length) from nI_le z (by omega)))
            refine lv_aload_n hx hb dX1_resolve_60 rfl (lv_at hl 3 rfl) ?_
            refine lv_aload_n hx hb dX1_resolve_61 rfl (lv_at hl 3 rfl) ?_
            refine va_get (v := .ref (q 1)) hx hb hts hinX1 hown hK hP 0 rfl rfl 2 (by decide) hf7 (fun _ h9 => h9) rfl dX1_resolve_62 ?_
            refine lv_iload_n hx hb dX1_resolve_65 rfl (lv_at hl 1 rfl) ?_
            refine xa_ld hx hb hK hP 1 0 rfl rfl k (by omega) (by first | decide | assumption) dX1_resolve_66 ?_
            refine lv_aload_n hx hb dX1_resolve_67 rfl (lv_at hl 3 rfl) ?_
            refine va_get (v := .ref (q 1)) hx hb hts hinX1 hown hK hP 0 rfl rfl 2 (by decide) hf7 (fun _ h9 => h9) rfl dX1_resolve_68 ?_
            refine lv_iload hx hb dX1_resolve_71 (lv_at hl 0 rfl) ?_
            refine xa_ld hx hb hK hP 1 0 rfl rfl j (by omega) (by first | decide | assumption) dX1_resolve_73 ?_
            refine lv_iload_n hx hb dX1_resolve_74 rfl (lv_at hl 4 rfl) ?_
            refine xc_s (As := [.int (f1 k), .int (f1 j), .int (nI v)]) (rest := [.ref (q 0)]) ⟨hx, hb, hml, hown, hts⟩ (kX1_resolvent l (f1 k) (f1 j) (nI v)) (va_cwS 3 hts (gd_S bw_346 bw_347 bw_2 bw_348) rfl rfl rfl (by decide +kernel) ⟨Nat.le_of_ble_eq_true rfl, Nat.le_of_ble_eq_true rfl⟩) rfl hl.1 rfl (Nat.le_of_ble_eq_true rfl) dX1_resolve_75 ⟨Nat.zero_le _, Nat.zero_le _⟩ ?_
            refine lv_topi (fun w9 ew9 => ?_)
            rw [rk.2, rj.2, m_res_eq h1 h2] at ew9
            have hw9 : k_ok w9 := by rw [ew9]; exact k_ok_res gk.1 gj.1
            refine xc_wi (As := [.int w9]) (rest := []) ⟨hx, hb, hml, hown, hts⟩ (kX1_make l D q cA (yk (yd S) (yn S + R1.length) (q_mm (ym S) R1) (yh S) (yg S) (yt S) (yth S) f1 g1 (yes S) (yel S) (ygi S)) ⟨hr1, hh200, hg100⟩ w9 (show yn S + R1.length < 90 from h57) _) (cwV 1 hts (gd_V bw_309 bw_310 bw_435 bw_2 bw_311) rfl rfl rfl (by decide +kernel) ⟨Nat.le_of_ble_eq_true rfl, Nat.le_of_ble_eq_true rfl⟩) (va_recv (ci := 1) (q0 := 0) hK hP rfl rfl) hP hK hD hS hA rfl hl.1 rfl (Nat.le_of_ble_eq_true rfl) dX1_resolve_78 ⟨Nat.zero_le _, Nat.zero_le _⟩ (fun r1 u1 H locs hu1 hP hD hS => ?_)
            have hu2 : (r1, u1) = (if m_taut w9 = true ∨ ¬ q_find (q_app (vML S) (ym S) R1) w9 = none then ((-1 : Int32), (yk (yd S) (yn S + R1.length) (q_mm (ym S) R1) (yh S) (yg S) (yt S) (yth S) f1 g1 (yes S) (yel S) (ygi S))) else (q_mm (ym S) R1, (yk (yd S) (yn S + R1.length + 1) (q_mm (ym S) R1 + 1) (yh S) (yg S) (yt S) (yth S) (upd f1 (yn S + R1.length) w9) (upd g1 (yn S + R1.length) (q_mm (ym S) R1)) (yes S) (yel S) (ygi S)))) := by rw [← hc1]; exact hu1
            by_cases hmk : m_taut w9 = true ∨ ¬ q_find (q_app (vML S) (ym S) R1) w9 = none
            · rw [if_pos hmk] at hu2
              have hu3 : u1 = (yk (yd S) (yn S + R1.length) (q_mm (ym S) R1) (yh S) (yg S) (yt S) (yth S) f1 g1 (yes S) (yel S) (ygi S)) := congrArg Prod.snd hu2
              have hP : va_P D vwCl (wM q cA (yk (yd S) (yn S + R1.length) (q_mm (ym S) R1) (yh S) (yg S) (yt S) (yth S) f1 g1 (yes S) (yel S) (ygi S))) H := by rw [hu3] at hP; exact hP
              have hD : va_D (va_A (wM q cA S) s.heap.size) (wM q cA (yk (yd S) (yn S + R1.length) (q_mm (ym S) R1) (yh S) (yg S) (yt S) (yth S) f1 g1 (yes S) (yel S) (ygi S))) := by rw [hu3] at hD; exact hD
              have hnot : ¬ (¬ yse S k &&& k_pos (nI v) = 0 ∧ ¬ q_set (vML S) j &&& k_neg (nI v) = 0 ∧ (vML S).length + R1.length < 90 ∧ q_can (vML S) (k_res (yse S k) (q_set (vML S) j) (k_both (nI v))) = true ∧ k_res (yse S k) (q_set (vML S) j) (k_both (nI v)) ∉ R1) := fun z => (can_app (mm := ym S) hw9).mpr (by rw [ew9]; rw [hsj] at z; exact z.2.2.2) hmk
              refine lv_istore (lv' := [(5, .int r1), (4, .int (nI j)), (3, .int (nI k)), (2, .int (nI (yn S))), (0, .ref (q 0)), (1, .int (nI v))]) hx hb dX1_resolve_81 hl (by decide) rfl (fun ls hl => ?_)
              refine lv_iinc (k := 1) (v := nI (j + 1)) (lv' := [(4, .int (nI (j + 1))), (5, .int r1), (3, .int (nI k)), (2, .int (nI (yn S))), (0, .ref (q 0)), (1, .int (nI v))]) hx hb dX1_resolve_83 hl rfl (ii_1 _) (by decide) rfl (fun ls hl => ?_)
              refine lv_goto (tgt := 15) hx hb dX1_resolve_86 (by decide) ?_
              exact ih15 (j + 1, R1, f1, g1) _ _ _ ⟨lv_sub hl [0, 2, 3, 4, 5] rfl, hP, hD, hS, (by omega), hc1, hr1, (by rw [hq2, mg1_un hlt2, if_neg hnot])⟩ (by show yn S - (j + 1) < yn S - j; omega)
            · rw [if_neg hmk] at hu2
              have hu3 : u1 = (yk (yd S) (yn S + R1.length + 1) (q_mm (ym S) R1 + 1) (yh S) (yg S) (yt S) (yth S) (upd f1 (yn S + R1.length) w9) (upd g1 (yn S + R1.length) (q_mm (ym S) R1)) (yes S) (yel S) (ygi S)) := congrArg Prod.snd hu2
              have hP : va_P D vwCl (wM q cA (yk (yd S) (yn S + R1.length + 1) (q_mm (ym S) R1 + 1) (yh S) (yg S) (yt S) (yth S) (upd f1 (yn S + R1.length) w9) (upd g1 (yn S + R1.length) (q_mm (ym S) R1)) (yes S) (yel S) (ygi S))) H := by rw [hu3] at hP; exact hP
              have hD : va_D (va_A (wM q cA S) s.heap.size) (wM q cA (yk (yd S) (yn S + R1.length + 1) (q_mm (ym S) R1 + 1) (yh S) (yg S) (yt S) (yth S) (upd f1 (yn S + R1.length) w9) (upd g1 (yn S + R1.length) (q_mm (ym S) R1)) (yes S) (yel S) (ygi S))) := by rw [hu3] at hD; exact hD
              have hca := (can_app (mm := ym S) hw9).mp hmk
              have hall : (¬ yse S k &&& k_pos (nI v) = 0 ∧ ¬ q_set (vML S) j &&& k_neg (nI v) = 0 ∧ (vML S).length + R1.length < 90 ∧ q_can (vML S) (k_res (yse S k) (q_set (vML S) j) (k_both (nI v))) = true ∧ k_res (yse S k) (q_set (vML S) j) (k_both (nI v)) ∉ R1) := ⟨hc32, by rw [hsj]; exact hc48, by rw [vML_len]; exact h57, by rw [hsj, ← ew9]; exact hca⟩
              have hc9 : cl_of (yn S + (R1 ++ [w9]).length) (upd f1 (yn S + R1.length) w9) (upd g1 (yn S + R1.length) (q_mm (ym S) R1)) = q_app (vML S) (ym S) (R1 ++ [w9]) := by
                rw [List.length_append, (app_snoc R1 _ _ w9).1, ← hc1]
                exact mk_cl _ _ _ _ _
              refine lv_istore (lv' := [(5, .int r1), (4, .int (nI j)), (3, .int (nI k)), (2, .int (nI (yn S))), (0, .ref (q 0)), (1, .int (nI v))]) hx hb dX1_resolve_81 hl (by decide) rfl (fun ls hl => ?_)
              refine lv_iinc (k := 1) (v := nI (j + 1)) (lv' := [(4, .int (nI (j + 1))), (5, .int r1), (3, .int (nI k)), (2, .int (nI (yn S))), (0, .ref (q 0)), (1, .int (nI v))]) hx hb dX1_resolve_83 hl rfl (ii_1 _) (by decide) rfl (fun ls hl => ?_)
              refine lv_goto (tgt := 15) hx hb dX1_resolve_86 (by decide) ?_
              exact ih15 (j + 1, R1 ++ [w9], upd f1 (yn S + R1.length) w9, upd g1 (yn S + R1.length) (q_mm (ym S) R1)) _ _ _ ⟨lv_sub hl [0, 2, 3, 4, 5] rfl, (by rw [(app_snoc R1 [] (ym S) w9).2, List.length_append]; exact hP), (by rw [(app_snoc R1 [] (ym S) w9).2, List.length_append]; exact hD), hS, (by omega), hc9, (by rw [List.length_append]; exact h57), (by rw [hq2, mg1_un hlt2, if_pos hall, hsj, ← ew9])⟩ (by show yn S - (j + 1) < yn S - j; omega)
