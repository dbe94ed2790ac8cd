/-! The reference: eliminate. -/
set_option maxHeartbeats 4000000 in
set_option maxRecDepth 100000 in
theorem kX1_eliminate_much (l : Launch) (D : va_G) (q : Nat → Nat) (cA : ClassId) (S : MS) (hok : okM S) (v : Nat) (h1 : 1 ≤ v) (h2 : v ≤ 10) (hg : g_cl (vML S)) (hn9 : yn S ≤ 40) (R : List Int32) (hR : m_g2 (vML S) (nI v) (yn S) 0 [] = R) (hm : q_cw (vML S) (k_both (nI v)) < R.length) (sz : Nat) : xw_Mi l yX1_eliminate wsX1_eliminate ({ frames := 3, cells := 0, slots := 0, locals := 68 }) D vwCl [(cA, .int)] [.ref (q 0), .int (nI v)] (wM q cA S) sz (fun (r : Int32) (u : MS) => (r : Int32) = -1 ∧ vML u = vML S ∧ u = (yk (yd S) (yn S) (ym S) (yh S) (yg S) (yt S) 0 (yse u) (ynu u) (yes S) (yel S) (ygi S))) (wM q cA) := by
  refine Met.ofW (cc := cX1_eliminate) (maxL := 11) (ret := (some .int)) (by decide) rfl ?_
  intro p e s m args below meth c s₁ B hml hv
  obtain ⟨rfl, hsz, hP, hK, hD0⟩ := hv
  subst hsz
  have hD := hD0.self (sz := s.heap.size)
  have hA : ∀ z, s.heap.size ≤ z → va_A (wM q cA S) s.heap.size z := fun z h => Or.inr h
  have hS : va_S (va_A (wM q cA S) s.heap.size) s.heap s.heap [] := va_S.rf
  obtain ⟨hn40, hh200, hg100⟩ := id hok
  have hx := B.exec
  have hb := B.bytes
  have hr := B.returns
  have hts := atoms_spec (ws := wsX1_eliminate) B.pre
  have hown : s.vm.findClass RX1 = some m.cls := findClass_of_methodNamed B.named
  have hlocks := B.notSynchronized
  have hinX1 : ∀ w ∈ u_ws RX1 TX1 12, w ∈ wsX1_eliminate := fun w h => List.mem_cons_of_mem _ (bw_X1 w h)
  have hf7 := hts _ (List.mem_cons_of_mem _ bw_260)
  have hf25 := hts _ (List.mem_cons_of_mem _ bw_269)
  have hf33 := hts _ (List.mem_cons_of_mem _ bw_259)
  have hf43 := hts _ (List.mem_cons_of_mem _ bw_262)
  have hl := lv_entry ([.ref (q 0), .int (nI v)]) (n := 11) (Nat.le_of_ble_eq_true rfl)
  rw [lg_entry_eq]
  generalize (lg_sl ([.ref (q 0), .int (nI v)]) ++ List.replicate (11 - (lg_sl ([.ref (q 0), .int (nI v)])).length) Slot.unset).toArray = ls at hl ⊢
  have hl : lv_has ls 11 [(0, .ref (q 0)), (1, .int (nI v))] := hl
  refine lv_aload_n hx hb dX1_eliminate_0 rfl (lv_at hl 0 rfl) ?_
  refine lv_iload_n hx hb dX1_eliminate_1 rfl (lv_at hl 1 rfl) ?_
  refine lv_iconst (v := 1) hx hb dX1_eliminate_2 (by decide) ?_
  refine lv_icmp_lt (tgt := 12) hx hb dX1_eliminate_3 (by decide) (fun hc3 => ?_) (fun hc3 => ?_)
  · exact absurd hc3 (isV_split.mp (isV_nI v (by omega) h1)).1
  · refine lv_iload_n hx hb dX1_eliminate_6 rfl (lv_at hl 1 rfl) ?_
    refine lv_bipush (v := 10) hx hb dX1_eliminate_7 (by decide) ?_
    refine lv_icmp_le (tgt := 16) hx hb dX1_eliminate_9 (by decide) (fun hc9 => ?_) (fun hc9 => ?_)
    · refine lv_iconst (v := 0) hx hb dX1_eliminate_16 (by decide) ?_
      refine va_put (v := .int 0) (ty := .int) hx hb hts hinX1 tyX1 tyX1_ok nmX1 hown hK hP hD hS 0 rfl rfl 11 (by decide) hf25 (fun _ h9 => h9) rfl (by decide +kernel) rfl rfl (Nat.le_of_ble_eq_true rfl) dX1_eliminate_17 (fun H locs hP hD hS => ?_)
      have hP : va_P D vwCl (wM q cA (yk (yd S) (yn S) (ym S) (yh S) (yg S) (yt S) 0 (yse S) (ynu S) (yes S) (yel S) (ygi S))) H := hP
      have hD : va_D _ (wM q cA (yk (yd S) (yn S) (ym S) (yh S) (yg S) (yt S) 0 (yse S) (ynu S) (yes S) (yel S) (ygi S))) := hD
      refine lv_aload_n hx hb dX1_eliminate_20 rfl (lv_at hl 0 rfl) ?_
      refine va_get (v := .int 0) hx hb hts hinX1 hown hK hP 0 rfl rfl 11 (by decide) hf25 (fun _ h9 => h9) rfl dX1_eliminate_21 ?_
      refine lv_if_eq (tgt := 29) hx hb dX1_eliminate_24 (by decide) (fun hc24 => ?_) (fun hc24 => ?_)
      · refine lv_iload_n hx hb dX1_eliminate_29 rfl (lv_at hl 1 rfl) ?_
        refine xc_s (As := [.int (nI v)]) (rest := []) ⟨hx, hb, hml, hown, hts⟩ (kX1_bit l (nI v)) (va_cwS 1 hts (gd_S bw_293 bw_294 bw_2 bw_295) rfl rfl rfl (by decide +kernel) ⟨Nat.le_of_ble_eq_true rfl, Nat.le_of_ble_eq_true rfl⟩) rfl hl.1 rfl (Nat.le_of_ble_eq_true rfl) dX1_eliminate_30 ⟨Nat.zero_le _, Nat.zero_le _⟩ ?_
        refine lv_iload_n hx hb dX1_eliminate_33 rfl (lv_at hl 1 rfl) ?_
        refine lv_ineg hx hb dX1_eliminate_34 ?_
        refine xc_s (As := [.int (-(nI v))]) (rest := [.int (m_bit (nI v))]) ⟨hx, hb, hml, hown, hts⟩ (kX1_bit l (-(nI v))) (va_cwS 1 hts (gd_S bw_293 bw_294 bw_2 bw_295) rfl rfl rfl (by decide +kernel) ⟨Nat.le_of_ble_eq_true rfl, Nat.le_of_ble_eq_true rfl⟩) rfl hl.1 rfl (Nat.le_of_ble_eq_true rfl) dX1_eliminate_35 ⟨Nat.zero_le _, Nat.zero_le _⟩ ?_
        refine lv_ior hx hb dX1_eliminate_38 ?_
        refine lv_topi (fun z1 ez1 => ?_)
        obtain rfl : z1 = k_both (nI v) := ez1.trans (mb_both v (by omega) h1)
        refine lv_istore_n (lv' := [(2, .int (k_both (nI v))), (0, .ref (q 0)), (1, .int (nI v))]) hx hb dX1_eliminate_39 rfl hl (by decide) rfl (fun ls hl => ?_)
        refine lv_iconst (v := 0) hx hb dX1_eliminate_40 (by decide) ?_
        refine lv_istore_n (lv' := [(3, .int 0), (2, .int (k_both (nI v))), (0, .ref (q 0)), (1, .int (nI v))]) hx hb dX1_eliminate_41 rfl hl (by decide) rfl (fun ls hl => ?_)
        refine lv_iconst (v := 1) hx hb dX1_eliminate_42 (by decide) ?_
        refine lv_istore (lv' := [(4, .int 1), (3, .int 0), (2, .int (k_both (nI v))), (0, .ref (q 0)), (1, .int (nI v))]) hx hb dX1_eliminate_43 hl (by decide) rfl (fun ls hl => ?_)
        refine lv_iconst (v := 0) hx hb dX1_eliminate_45 (by decide) ?_
        refine lv_istore (lv' := [(5, .int 0), (4, .int 1), (3, .int 0), (2, .int (k_both (nI v))), (0, .ref (q 0)), (1, .int (nI v))]) hx hb dX1_eliminate_46 hl (by decide) rfl (fun ls hl => ?_)
        refine wlr (σ := Nat × Nat × Nat) (fun (x9 : Nat × Nat × Nat) ls => match x9 with | (k, a, p9) => lv_has ls 11 [(5, .int (nI k)), (4, .int (nI p9)), (3, .int (nI a)), (2, .int (k_both (nI v))), (0, .ref (q 0)), (1, .int (nI v))] ∧ k ≤ yn S ∧ a ≤ k ∧ p9 ≤ k + 1 ∧ q_ct (fun i => (q_set (vML S) i &&& k_both (nI v)) != 0) (yn S - 0) 0 0 = q_ct (fun i => (q_set (vML S) i &&& k_both (nI v)) != 0) (yn S - k) k a ∧ q_ct (fun i => (q_set (vML S) i &&& k_pos (nI v)) != 0) (yn S - 0) 0 1 = q_ct (fun i => (q_set (vML S) i &&& k_pos (nI v)) != 0) (yn S - k) k p9) (fun (x9 : Nat × Nat × Nat) => match x9 with | (k, a, p9) => yn S - k) (0, 0, 1) ⟨lv_sub hl [0, 1, 2, 3, 4, 5] rfl, (Nat.zero_le _), (Nat.zero_le _), (Nat.le_refl _), rfl, rfl⟩ ?_
        intro x9 ls hI ih48
        obtain ⟨k, a, p9⟩ := x9
        obtain ⟨hl, hk, ha, hp, hqa, hqp⟩ := hI
        have hl : lv_has ls 11 [(5, .int (nI k)), (4, .int (nI p9)), (3, .int (nI a)), (2, .int (k_both (nI v))), (0, .ref (q 0)), (1, .int (nI v))] := hl
        refine lv_iload hx hb dX1_eliminate_48 (lv_at hl 0 rfl) ?_
        refine lv_aload_n hx hb dX1_eliminate_50 rfl (lv_at hl 4 rfl) ?_
        refine va_get (v := .int (nI (yn S))) hx hb hts hinX1 hown hK hP 0 rfl rfl 1 (by decide) hf33 (fun _ h9 => h9) rfl dX1_eliminate_51 ?_
        refine lv_icmp_ge (tgt := 109) hx hb dX1_eliminate_54 (by decide) (fun hc54 => ?_) (fun hc54 => ?_)
        · have hge : yn S ≤ k := (nI_leI (by omega) (by omega)).mp hc54
          have ga : q_cw (vML S) (k_both (nI v)) = a := by
            unfold q_cw
            rw [vML_len]
            exact hqa.trans (q_ct_end hge)
          have gp : 1 + q_cw (vML S) (k_pos (nI v)) = p9 := by
            have z := hqp.trans (q_ct_end hge)
            rw [q_ct_acc] at z
            unfold q_cw
            rw [vML_len]
            exact z
          refine lv_aload_n hx hb dX1_eliminate_109 rfl (lv_at hl 4 rfl) ?_
          refine va_get (v := .int (nI (yn S))) hx hb hts hinX1 hown hK hP 0 rfl rfl 1 (by decide) hf33 (fun _ h9 => h9) rfl dX1_eliminate_110 ?_
          refine lv_istore (lv' := [(5, .int (nI (yn S))), (4, .int (nI p9)), (3, .int (nI a)), (2, .int (k_both (nI v))), (0, .ref (q 0)), (1, .int (nI v))]) hx hb dX1_eliminate_113 hl (by decide) rfl (fun ls hl => ?_)
          refine lv_aload_n hx hb dX1_eliminate_115 rfl (lv_at hl 4 rfl) ?_
          refine va_get (v := .int (ym S)) hx hb hts hinX1 hown hK hP 0 rfl rfl 4 (by decide) hf43 (fun _ h9 => h9) rfl dX1_eliminate_116 ?_
          refine lv_istore (lv' := [(6, .int (ym S)), (5, .int (nI (yn S))), (4, .int (nI p9)), (3, .int (nI a)), (2, .int (k_both (nI v))), (0, .ref (q 0)), (1, .int (nI v))]) hx hb dX1_eliminate_119 hl (by decide) rfl (fun ls hl => ?_)
          refine lv_aload_n hx hb dX1_eliminate_121 rfl (lv_at hl 5 rfl) ?_
          refine lv_iload_n hx hb dX1_eliminate_122 rfl (lv_at hl 6 rfl) ?_
          refine xc_wi (As := [.int (nI v)]) (rest := []) ⟨hx, hb, hml, hown, hts⟩ (kX1_resolve l D q cA (yk (yd S) (yn S) (ym S) (yh S) (yg S) (yt S) 0 (yse S) (ynu S) (yes S) (yel S) (ygi S)) ⟨hn40, hh200, hg100⟩ v h1 h2 hg hn9 _) (cwV 1 hts (gd_V bw_353 bw_354 bw_444 bw_2 bw_355) rfl rfl rfl (by decide +kernel) ⟨Nat.le_of_ble_eq_true rfl, Nat.le_of_ble_eq_true rfl⟩) (va_recv (ci := 1) (q0 := 0) hK hP rfl rfl) hP hK hD hS hA rfl hl.1 rfl (Nat.le_of_ble_eq_true rfl) dX1_eliminate_123 ⟨Nat.zero_le _, Nat.zero_le _⟩ (fun r1 u1 H locs hu1 hP hD hS => ?_)
          obtain ⟨e1, e2, e3, e4, e5⟩ : r1 = nI R.length ∧ yn u1 = yn S + R.length ∧ ym u1 = q_mm (ym S) R ∧ vML u1 = (q_app (vML S) (ym S) R) ∧ u1 = (yk (yd S) (yn u1) (ym u1) (yh S) (yg S) (yt S) 0 (yse u1) (ynu u1) (yes S) (yel S) (ygi S)) := by rw [← hR]; exact hu1
          subst e1
          have hP : va_P D vwCl (wM q cA (yk (yd S) (yn S + R.length) (q_mm (ym S) R) (yh S) (yg S) (yt S) 0 (yse u1) (ynu u1) (yes S) (yel S) (ygi S))) H := by rw [e5, e2, e3] at hP; exact hP
          have hD : va_D (va_A (wM q cA S) s.heap.size) (wM q cA (yk (yd S) (yn S + R.length) (q_mm (ym S) R) (yh S) (yg S) (yt S) 0 (yse u1) (ynu u1) (yes S) (yel S) (ygi S))) := by rw [e5, e2, e3] at hD; exact hD
          have hcl : cl_of (yn S + R.length) (yse u1) (ynu u1) = (q_app (vML S) (ym S) R) := by rw [← e2]; exact e4
          have hRl : yn S + R.length ≤ 90 := by rw [← hR, ← vML_len S]; exact mg2_len _ _ _ (by rw [vML_len]; show yn S + 0 ≤ 90; omega)
          refine lv_istore (lv' := [(7, .int (nI R.length)), (6, .int (ym S)), (5, .int (nI (yn S))), (4, .int (nI p9)), (3, .int (nI a)), (2, .int (k_both (nI v))), (0, .ref (q 0)), (1, .int (nI v))]) hx hb dX1_eliminate_126 hl (by decide) rfl (fun ls hl => ?_)
          refine lv_iload hx hb dX1_eliminate_128 (lv_at hl 0 rfl) ?_
          refine lv_iload_n hx hb dX1_eliminate_130 rfl (lv_at hl 4 rfl) ?_
          refine lv_icmp_le (tgt := 138) hx hb dX1_eliminate_131 (by decide) (fun hc131 => ?_) (fun hc131 => ?_)
          · exact absurd ((nI_leI (by omega) (by omega)).mp hc131) (by omega)
          · refine lv_iconst (v := 1) hx hb dX1_eliminate_134 (by decide) ?_
            refine lv_goto (tgt := 139) hx hb dX1_eliminate_135 (by decide) ?_
            refine lv_istore (lv' := [(8, .int 1), (7, .int (nI R.length)), (6, .int (ym S)), (5, .int (nI (yn S))), (4, .int (nI p9)), (3, .int (nI a)), (2, .int (k_both (nI v))), (0, .ref (q 0)), (1, .int (nI v))]) hx hb dX1_eliminate_139 hl (by decide) rfl (fun ls hl => ?_)
            refine lv_aload_n hx hb dX1_eliminate_141 rfl (lv_at hl 7 rfl) ?_
            refine lv_iload hx hb dX1_eliminate_142 (lv_at hl 0 rfl) ?_
            refine lv_if_ne (tgt := 164) hx hb dX1_eliminate_144 (by decide) (fun hc144 => ?_) (fun hc144 => ?_)
            · refine lv_iconst (v := 0) hx hb dX1_eliminate_164 (by decide) ?_
              refine va_put (v := .int 0) (ty := .int) hx hb hts hinX1 tyX1 tyX1_ok nmX1 hown hK hP hD hS 0 rfl rfl 11 (by decide) hf25 (fun _ h9 => h9) rfl (by decide +kernel) rfl rfl (Nat.le_of_ble_eq_true rfl) dX1_eliminate_165 (fun H locs hP hD hS => ?_)
              have hP : va_P D vwCl (wM q cA (yk (yd S) (yn S + R.length) (q_mm (ym S) R) (yh S) (yg S) (yt S) 0 (yse u1) (ynu u1) (yes S) (yel S) (ygi S))) H := hP
              have hD : va_D _ (wM q cA (yk (yd S) (yn S + R.length) (q_mm (ym S) R) (yh S) (yg S) (yt S) 0 (yse u1) (ynu u1) (yes S) (yel S) (ygi S))) := hD
              refine lv_iload hx hb dX1_eliminate_168 (lv_at hl 0 rfl) ?_
              refine lv_if_ne (tgt := 180) hx hb dX1_eliminate_170 (by decide) (fun hc170 => ?_) (fun hc170 => ?_)
              · refine lv_aload_n hx hb dX1_eliminate_180 rfl (lv_at hl 7 rfl) ?_
                refine lv_iload hx hb dX1_eliminate_181 (lv_at hl 3 rfl) ?_
                refine va_put (v := .int (nI (yn S))) (ty := .int) hx hb hts hinX1 tyX1 tyX1_ok nmX1 hown hK hP hD hS 0 rfl rfl 1 (by decide) hf33 (fun _ h9 => h9) rfl (by decide +kernel) rfl rfl (Nat.le_of_ble_eq_true rfl) dX1_eliminate_183 (fun H locs hP hD hS => ?_)
                have hP : va_P D vwCl (wM q cA (yk (yd S) (yn S) (q_mm (ym S) R) (yh S) (yg S) (yt S) 0 (yse u1) (ynu u1) (yes S) (yel S) (ygi S))) H := hP
                have hD : va_D _ (wM q cA (yk (yd S) (yn S) (q_mm (ym S) R) (yh S) (yg S) (yt S) 0 (yse u1) (ynu u1) (yes S) (yel S) (ygi S))) := hD
                refine lv_aload_n hx hb dX1_eliminate_186 rfl (lv_at hl 7 rfl) ?_
                refine lv_iload hx hb dX1_eliminate_187 (lv_at hl 2 rfl) ?_
                refine va_put (v := .int (ym S)) (ty := .int) hx hb hts hinX1 tyX1 tyX1_ok nmX1 hown hK hP hD hS 0 rfl rfl 4 (by decide) hf43 (fun _ h9 => h9) rfl (by decide +kernel) rfl rfl (Nat.le_of_ble_eq_true rfl) dX1_eliminate_189 (fun H locs hP hD hS => ?_)
                have hP : va_P D vwCl (wM q cA (yk (yd S) (yn S) (ym S) (yh S) (yg S) (yt S) 0 (yse u1) (ynu u1) (yes S) (yel S) (ygi S))) H := hP
                have hD : va_D _ (wM q cA (yk (yd S) (yn S) (ym S) (yh S) (yg S) (yt S) 0 (yse u1) (ynu u1) (yes S) (yel S) (ygi S))) := hD
                refine lv_aload_n hx hb dX1_eliminate_192 rfl (lv_at hl 7 rfl) ?_
                refine va_get (v := .int 0) hx hb hts hinX1 hown hK hP 0 rfl rfl 11 (by decide) hf25 (fun _ h9 => h9) rfl dX1_eliminate_193 ?_
                refine lv_if_ne (tgt := 203) hx hb dX1_eliminate_196 (by decide) (fun hc196 => ?_) (fun hc196 => ?_)
                · exact absurd hc196 (by decide)
                · refine lv_iconst (v := (-1)) hx hb dX1_eliminate_199 (by decide) ?_
                  refine lv_goto (tgt := 204) hx hb dX1_eliminate_200 (by decide) ?_
                  have hpo : ((-1) : Int32) = -1 ∧ vML (yk (yd S) (yn S) (ym S) (yh S) (yg S) (yt S) 0 (yse u1) (ynu u1) (yes S) (yel S) (ygi S)) = vML S ∧ (yk (yd S) (yn S) (ym S) (yh S) (yg S) (yt S) 0 (yse u1) (ynu u1) (yes S) (yel S) (ygi S)) = (yk (yd S) (yn S) (ym S) (yh S) (yg S) (yt S) 0 (yse (yk (yd S) (yn S) (ym S) (yh S) (yg S) (yt S) 0 (yse u1) (ynu u1) (yes S) (yel S) (ygi S))) (ynu (yk (yd S) (yn S) (ym S) (yh S) (yg S) (yt S) 0 (yse u1) (ynu u1) (yes S) (yel S) (ygi S))) (yes S) (yel S) (ygi S)) := ⟨rfl, cl_trunc hcl (vML_len S), rfl⟩
                  exact W.iret (v := (-1)) hx hb hr (fun t ht hW => ⟨⟨(-1), (yk (yd S) (yn S) (ym S) (yh S) (yg S) (yt S) 0 (yse u1) (ynu u1) (yes S) (yel S) (ygi S)), rfl, hpo, by rw [ht]; exact hP, va_K.moved hW.alike hK, hD⟩, hS.F ht⟩) hS.2.2 dX1_eliminate_204
              · exact absurd hc170 (by decide)
            · exact absurd hc144 (by decide)
        · have hlt : k < yn S := Nat.lt_of_not_le (fun z => hc54 ((nI_leI (by omega) (by omega)).mpr z))
          have hs : q_set (vML S) k = yse S k := q_set_of hlt
          refine lv_aload_n hx hb dX1_eliminate_57 rfl (lv_at hl 4 rfl) ?_
          refine va_get (v := .ref (q 1)) hx hb hts hinX1 hown hK hP 0 rfl rfl 2 (by decide) hf7 (fun _ h9 => h9) rfl dX1_eliminate_58 ?_
          refine lv_iload hx hb dX1_eliminate_61 (lv_at hl 0 rfl) ?_
          refine xa_ld hx hb hK hP 1 0 rfl rfl k (by omega) (by first | decide | assumption) dX1_eliminate_63 ?_
          refine lv_iload_n hx hb dX1_eliminate_64 rfl (lv_at hl 3 rfl) ?_
          refine lv_iand hx hb dX1_eliminate_65 ?_
          refine lv_if_eq (tgt := 75) hx hb dX1_eliminate_66 (by decide) (fun hc66 => ?_) (fun hc66 => ?_)
          · refine lv_iload_n hx hb dX1_eliminate_75 rfl (lv_at hl 2 rfl) ?_
            refine lv_istore_n (lv' := [(3, .int (nI a)), (5, .int (nI k)), (4, .int (nI p9)), (2, .int (k_both (nI v))), (0, .ref (q 0)), (1, .int (nI v))]) hx hb dX1_eliminate_76 rfl hl (by decide) rfl (fun ls hl => ?_)
            refine lv_aload_n hx hb dX1_eliminate_77 rfl (lv_at hl 4 rfl) ?_
            refine va_get (v := .ref (q 1)) hx hb hts hinX1 hown hK hP 0 rfl rfl 2 (by decide) hf7 (fun _ h9 => h9) rfl dX1_eliminate_78 ?_
            refine lv_iload hx hb dX1_eliminate_81 (lv_at hl 1 rfl) ?_
            refine xa_ld hx hb hK hP 1 0 rfl rfl k (by omega) (by first | decide | assumption) dX1_eliminate_83 ?_
            refine lv_iload_n hx hb dX1_eliminate_84 rfl (lv_at hl 5 rfl) ?_
            refine xc_s (As := [.int (nI v)]) (rest := [.int ((yse S) k)]) ⟨hx, hb, hml, hown, hts⟩ (kX1_bit l (nI v)) (va_cwS 1 hts (gd_S bw_293 bw_294 bw_2 bw_295) rfl rfl rfl (by decide +kernel) ⟨Nat.le_of_ble_eq_true rfl, Nat.le_of_ble_eq_true rfl⟩) rfl hl.1 rfl (Nat.le_of_ble_eq_true rfl) dX1_eliminate_85 ⟨Nat.zero_le _, Nat.zero_le _⟩ ?_
            refine lv_iand hx hb dX1_eliminate_88 ?_
            refine lv_if_eq (tgt := 99) hx hb dX1_eliminate_89 (by decide) (fun hc89 => ?_) (fun hc89 => ?_)
            · rw [m_bit_pos v (by omega) h1] at hc89
              refine lv_iload hx hb dX1_eliminate_99 (lv_at hl 2 rfl) ?_
              refine lv_istore (lv' := [(4, .int (nI p9)), (3, .int (nI a)), (5, .int (nI k)), (2, .int (k_both (nI v))), (0, .ref (q 0)), (1, .int (nI v))]) hx hb dX1_eliminate_101 hl (by decide) rfl (fun ls hl => ?_)
              refine lv_iinc (k := 2) (v := nI (k + 1)) (lv' := [(5, .int (nI (k + 1))), (4, .int (nI p9)), (3, .int (nI a)), (2, .int (k_both (nI v))), (0, .ref (q 0)), (1, .int (nI v))]) hx hb dX1_eliminate_103 hl rfl (ii_1 _) (by decide) rfl (fun ls hl => ?_)
              refine lv_goto (tgt := 48) hx hb dX1_eliminate_106 (by decide) ?_
              exact ih48 (k + 1, a, p9) _ ⟨lv_sub hl [0, 1, 2, 3, 4, 5] rfl, (by omega), (by omega), (by omega), (hqa.trans (q_ct_f hlt (by simp [hs, hc66]))), (hqp.trans (q_ct_f hlt (by simp [hs, hc89])))⟩ (by show yn S - (k + 1) < yn S - k; omega)
            · rw [m_bit_pos v (by omega) h1] at hc89
              refine lv_iload hx hb dX1_eliminate_92 (lv_at hl 2 rfl) ?_
              refine lv_iconst (v := 1) hx hb dX1_eliminate_94 (by decide) ?_
              refine xi_inc hx hb dX1_eliminate_95 ?_
              refine lv_goto (tgt := 101) hx hb dX1_eliminate_96 (by decide) ?_
              refine lv_istore (lv' := [(4, .int (nI (p9 + 1))), (3, .int (nI a)), (5, .int (nI k)), (2, .int (k_both (nI v))), (0, .ref (q 0)), (1, .int (nI v))]) hx hb dX1_eliminate_101 hl (by decide) rfl (fun ls hl => ?_)
              refine lv_iinc (k := 2) (v := nI (k + 1)) (lv' := [(5, .int (nI (k + 1))), (4, .int (nI (p9 + 1))), (3, .int (nI a)), (2, .int (k_both (nI v))), (0, .ref (q 0)), (1, .int (nI v))]) hx hb dX1_eliminate_103 hl rfl (ii_1 _) (by decide) rfl (fun ls hl => ?_)
              refine lv_goto (tgt := 48) hx hb dX1_eliminate_106 (by decide) ?_
              exact ih48 (k + 1, a, p9 + 1) _ ⟨lv_sub hl [0, 1, 2, 3, 4, 5] rfl, (by omega), (by omega), (by omega), (hqa.trans (q_ct_f hlt (by simp [hs, hc66]))), (hqp.trans (q_ct_t hlt (by simp [hs, hc89])))⟩ (by show yn S - (k + 1) < yn S - k; omega)
          · refine lv_iload_n hx hb dX1_eliminate_69 rfl (lv_at hl 2 rfl) ?_
            refine lv_iconst (v := 1) hx hb dX1_eliminate_70 (by decide) ?_
            refine xi_inc hx hb dX1_eliminate_71 ?_
            refine lv_goto (tgt := 76) hx hb dX1_eliminate_72 (by decide) ?_
            refine lv_istore_n (lv' := [(3, .int (nI (a + 1))), (5, .int (nI k)), (4, .int (nI p9)), (2, .int (k_both (nI v))), (0, .ref (q 0)), (1, .int (nI v))]) hx hb dX1_eliminate_76 rfl hl (by decide) rfl (fun ls hl => ?_)
            refine lv_aload_n hx hb dX1_eliminate_77 rfl (lv_at hl 4 rfl) ?_
            refine va_get (v := .ref (q 1)) hx hb hts hinX1 hown hK hP 0 rfl rfl 2 (by decide) hf7 (fun _ h9 => h9) rfl dX1_eliminate_78 ?_
            refine lv_iload hx hb dX1_eliminate_81 (lv_at hl 1 rfl) ?_
            refine xa_ld hx hb hK hP 1 0 rfl rfl k (by omega) (by first | decide | assumption) dX1_eliminate_83 ?_
            refine lv_iload_n hx hb dX1_eliminate_84 rfl (lv_at hl 5 rfl) ?_
            refine xc_s (As := [.int (nI v)]) (rest := [.int ((yse S) k)]) ⟨hx, hb, hml, hown, hts⟩ (kX1_bit l (nI v)) (va_cwS 1 hts (gd_S bw_293 bw_294 bw_2 bw_295) rfl rfl rfl (by decide +kernel) ⟨Nat.le_of_ble_eq_true rfl, Nat.le_of_ble_eq_true rfl⟩) rfl hl.1 rfl (Nat.le_of_ble_eq_true rfl) dX1_eliminate_85 ⟨Nat.zero_le _, Nat.zero_le _⟩ ?_
            refine lv_iand hx hb dX1_eliminate_88 ?_
            refine lv_if_eq (tgt := 99) hx hb dX1_eliminate_89 (by decide) (fun hc89 => ?_) (fun hc89 => ?_)
            · rw [m_bit_pos v (by omega) h1] at hc89
              refine lv_iload hx hb dX1_eliminate_99 (lv_at hl 2 rfl) ?_
              refine lv_istore (lv' := [(4, .int (nI p9)), (3, .int (nI (a + 1))), (5, .int (nI k)), (2, .int (k_both (nI v))), (0, .ref (q 0)), (1, .int (nI v))]) hx hb dX1_eliminate_101 hl (by decide) rfl (fun ls hl => ?_)
              refine lv_iinc (k := 2) (v := nI (k + 1)) (lv' := [(5, .int (nI (k + 1))), (4, .int (nI p9)), (3, .int (nI (a + 1))), (2, .int (k_both (nI v))), (0, .ref (q 0)), (1, .int (nI v))]) hx hb dX1_eliminate_103 hl rfl (ii_1 _) (by decide) rfl (fun ls hl => ?_)
              refine lv_goto (tgt := 48) hx hb dX1_eliminate_106 (by decide) ?_
              exact ih48 (k + 1, a + 1, p9) _ ⟨lv_sub hl [0, 1, 2, 3, 4, 5] rfl, (by omega), (by omega), (by omega), (hqa.trans (q_ct_t hlt (by simp [hs, hc66]))), (hqp.trans (q_ct_f hlt (by simp [hs, hc89])))⟩ (by show yn S - (k + 1) < yn S - k; omega)
            · rw [m_bit_pos v (by omega) h1] at hc89
              refine lv_iload hx hb dX1_eliminate_92 (lv_at hl 2 rfl) ?_
              refine lv_iconst (v := 1) hx hb dX1_eliminate_94 (by decide) ?_
              refine xi_inc hx hb dX1_eliminate_95 ?_
              refine lv_goto (tgt := 101) hx hb dX1_eliminate_96 (by decide) ?_
              refine lv_istore (lv' := [(4, .int (nI (p9 + 1))), (3, .int (nI (a + 1))), (5, .int (nI k)), (2, .int (k_both (nI v))), (0, .ref (q 0)), (1, .int (nI v))]) hx hb dX1_eliminate_101 hl (by decide) rfl (fun ls hl => ?_)
              refine lv_iinc (k := 2) (v := nI (k + 1)) (lv' := [(5, .int (nI (k + 1))), (4, .int (nI (p9 + 1))), (3, .int (nI (a + 1))), (2, .int (k_both (nI v))), (0, .ref (q 0)), (1, .int (nI v))]) hx hb dX1_eliminate_103 hl rfl (ii_1 _) (by decide) rfl (fun ls hl => ?_)
              refine lv_goto (tgt := 48) hx hb dX1_eliminate_106 (by decide) ?_
              exact ih48 (k + 1, a + 1, p9 + 1) _ ⟨lv_sub hl [0, 1, 2, 3, 4, 5] rfl, (by omega), (by omega), (by omega), (hqa.trans (q_ct_t hlt (by simp [hs, hc66]))), (hqp.trans (q_ct_t hlt (by simp [hs, hc89])))⟩ (by show yn S - (k + 1) < yn S - k; omega)
      · exact absurd hc24 (by decide)
    · exact absurd (Int32.not_le.mp hc9) (isV_split.mp (isV_nI v (by omega) h1)).2

set_option maxHeartbeats 4000000 in
set_option maxRecDepth 100000 in
theorem kX1_eliminate_full (l : Launch) (D : va_G) (q : Nat → Nat) (cA : ClassId) (S : MS) (hok : okM S) (v : Nat) (h1 : 1 ≤ v) (h2 : v ≤ 10) (hg : g_cl (vML S)) (hn9 : yn S ≤ 40) (R : List Int32) (hR : m_g2 (vML S) (nI v) (yn S) 0 [] = R) (hm : R.length ≤ q_cw (vML S) (k_both (nI v))) (hf : 200 < yh S + q_cw (vML S) (k_pos (nI v)) + 1) (sz : Nat) : xw_Mi l yX1_eliminate wsX1_eliminate ({ frames := 3, cells := 0, slots := 0, locals := 68 }) D vwCl [(cA, .int)] [.ref (q 0), .int (nI v)] (wM q cA S) sz (fun (r : Int32) (u : MS) => (r : Int32) = 0 ∧ vML u = vML S ∧ u = (yk (yd S) (yn S) (ym S) (yh S) (yg S) (yt S) 2 (yse u) (ynu u) (yes S) (yel S) (ygi S))) (wM q cA) := by
  refine Met.ofW (cc := cX1_eliminate) (maxL := 11) (ret := (some .int)) (by decide) rfl ?_
  intro p e s m args below meth c s₁ B hml hv
  obtain ⟨rfl, hsz, hP, hK, hD0⟩ := hv
  subst hsz
  have hD := hD0.self (sz := s.heap.size)
  have hA : ∀ z, s.heap.size ≤ z → va_A (wM q cA S) s.heap.size z := fun z h => Or.inr h
  have hS : va_S (va_A (wM q cA S) s.heap.size) s.heap s.heap [] := va_S.rf
  obtain ⟨hn40, hh200, hg100⟩ := id hok
  have hx := B.exec
  have hb := B.bytes
  have hr := B.returns
  have hts := atoms_spec (ws := wsX1_eliminate) B.pre
  have hown : s.vm.findClass RX1 = some m.cls := findClass_of_methodNamed B.named
  have hlocks := B.notSynchronized
  have hinX1 : ∀ w ∈ u_ws RX1 TX1 12, w ∈ wsX1_eliminate := fun w h => List.mem_cons_of_mem _ (bw_X1 w h)
  have hf7 := hts _ (List.mem_cons_of_mem _ bw_260)
  have hf25 := hts _ (List.mem_cons_of_mem _ bw_269)
  have hf33 := hts _ (List.mem_cons_of_mem _ bw_259)
  have hf43 := hts _ (List.mem_cons_of_mem _ bw_262)
  have hf65 := hts _ (List.mem_cons_of_mem _ bw_263)
  have hl := lv_entry ([.ref (q 0), .int (nI v)]) (n := 11) (Nat.le_of_ble_eq_true rfl)
  rw [lg_entry_eq]
  generalize (lg_sl ([.ref (q 0), .int (nI v)]) ++ List.replicate (11 - (lg_sl ([.ref (q 0), .int (nI v)])).length) Slot.unset).toArray = ls at hl ⊢
  have hl : lv_has ls 11 [(0, .ref (q 0)), (1, .int (nI v))] := hl
  refine lv_aload_n hx hb dX1_eliminate_0 rfl (lv_at hl 0 rfl) ?_
  refine lv_iload_n hx hb dX1_eliminate_1 rfl (lv_at hl 1 rfl) ?_
  refine lv_iconst (v := 1) hx hb dX1_eliminate_2 (by decide) ?_
  refine lv_icmp_lt (tgt := 12) hx hb dX1_eliminate_3 (by decide) (fun hc3 => ?_) (fun hc3 => ?_)
  · exact absurd hc3 (isV_split.mp (isV_nI v (by omega) h1)).1
  · refine lv_iload_n hx hb dX1_eliminate_6 rfl (lv_at hl 1 rfl) ?_
    refine lv_bipush (v := 10) hx hb dX1_eliminate_7 (by decide) ?_
    refine lv_icmp_le (tgt := 16) hx hb dX1_eliminate_9 (by decide) (fun hc9 => ?_) (fun hc9 => ?_)
    · refine lv_iconst (v := 0) hx hb dX1_eliminate_16 (by decide) ?_
      refine va_put (v := .int 0) (ty := .int) hx hb hts hinX1 tyX1 tyX1_ok nmX1 hown hK hP hD hS 0 rfl rfl 11 (by decide) hf25 (fun _ h9 => h9) rfl (by decide +kernel) rfl rfl (Nat.le_of_ble_eq_true rfl) dX1_eliminate_17 (fun H locs hP hD hS => ?_)
      have hP : va_P D vwCl (wM q cA (yk (yd S) (yn S) (ym S) (yh S) (yg S) (yt S) 0 (yse S) (ynu S) (yes S) (yel S) (ygi S))) H := hP
      have hD : va_D _ (wM q cA (yk (yd S) (yn S) (ym S) (yh S) (yg S) (yt S) 0 (yse S) (ynu S) (yes S) (yel S) (ygi S))) := hD
      refine lv_aload_n hx hb dX1_eliminate_20 rfl (lv_at hl 0 rfl) ?_
      refine va_get (v := .int 0) hx hb hts hinX1 hown hK hP 0 rfl rfl 11 (by decide) hf25 (fun _ h9 => h9) rfl dX1_eliminate_21 ?_
      refine lv_if_eq (tgt := 29) hx hb dX1_eliminate_24 (by decide) (fun hc24 => ?_) (fun hc24 => ?_)
      · refine lv_iload_n hx hb dX1_eliminate_29 rfl (lv_at hl 1 rfl) ?_
        refine xc_s (As := [.int (nI v)]) (rest := []) ⟨hx, hb, hml, hown, hts⟩ (kX1_bit l (nI v)) (va_cwS 1 hts (gd_S bw_293 bw_294 bw_2 bw_295) rfl rfl rfl (by decide +kernel) ⟨Nat.le_of_ble_eq_true rfl, Nat.le_of_ble_eq_true rfl⟩) rfl hl.1 rfl (Nat.le_of_ble_eq_true rfl) dX1_eliminate_30 ⟨Nat.zero_le _, Nat.zero_le _⟩ ?_
        refine lv_iload_n hx hb dX1_eliminate_33 rfl (lv_at hl 1 rfl) ?_
        refine lv_ineg hx hb dX1_eliminate_34 ?_
        refine xc_s (As := [.int (-(nI v))]) (rest := [.int (m_bit (nI v))]) ⟨hx, hb, hml, hown, hts⟩ (kX1_bit l (-(nI v))) (va_cwS 1 hts (gd_S bw_293 bw_294 bw_2 bw_295) rfl rfl rfl (by decide +kernel) ⟨Nat.le_of_ble_eq_true rfl, Nat.le_of_ble_eq_true rfl⟩) rfl hl.1 rfl (Nat.le_of_ble_eq_true rfl) dX1_eliminate_35 ⟨Nat.zero_le _, Nat.zero_le _⟩ ?_
        refine lv_ior hx hb dX1_eliminate_38 ?_
        refine lv_topi (fun z1 ez1 => ?_)
        obtain rfl : z1 = k_both (nI v) := ez1.trans (mb_both v (by omega) h1)
        refine lv_istore_n (lv' := [(2, .int (k_both (nI v))), (0, .ref (q 0)), (1, .int (nI v))]) hx hb dX1_eliminate_39 rfl hl (by decide) rfl (fun ls hl => ?_)
        refine lv_iconst (v := 0) hx hb dX1_eliminate_40 (by decide) ?_
        refine lv_istore_n (lv' := [(3, .int 0), (2, .int (k_both (nI v))), (0, .ref (q 0)), (1, .int (nI v))]) hx hb dX1_eliminate_41 rfl hl (by decide) rfl (fun ls hl => ?_)
        refine lv_iconst (v := 1) hx hb dX1_eliminate_42 (by decide) ?_
        refine lv_istore (lv' := [(4, .int 1), (3, .int 0), (2, .int (k_both (nI v))), (0, .ref (q 0)), (1, .int (nI v))]) hx hb dX1_eliminate_43 hl (by decide) rfl (fun ls hl => ?_)
        refine lv_iconst (v := 0) hx hb dX1_eliminate_45 (by decide) ?_
        refine lv_istore (lv' := [(5, .int 0), (4, .int 1), (3, .int 0), (2, .int (k_both (nI v))), (0, .ref (q 0)), (1, .int (nI v))]) hx hb dX1_eliminate_46 hl (by decide) rfl (fun ls hl => ?_)
        refine wlr (σ := Nat × Nat × Nat) (fun (x9 : Nat × Nat × Nat) ls => match x9 with | (k, a, p9) => lv_has ls 11 [(5, .int (nI k)), (4, .int (nI p9)), (3, .int (nI a)), (2, .int (k_both (nI v))), (0, .ref (q 0)), (1, .int (nI v))] ∧ k ≤ yn S ∧ a ≤ k ∧ p9 ≤ k + 1 ∧ q_ct (fun i => (q_set (vML S) i &&& k_both (nI v)) != 0) (yn S - 0) 0 0 = q_ct (fun i => (q_set (vML S) i &&& k_both (nI v)) != 0) (yn S - k) k a ∧ q_ct (fun i => (q_set (vML S) i &&& k_pos (nI v)) != 0) (yn S - 0) 0 1 = q_ct (fun i => (q_set (vML S) i &&& k_pos (nI v)) != 0) (yn S - k) k p9) (fun (x9 : Nat × Nat × Nat) => match x9 with | (k, a, p9) => yn S - k) (0, 0, 1) ⟨lv_sub hl [0, 1, 2, 3, 4, 5] rfl, (Nat.zero_le _), (Nat.zero_le _), (Nat.le_refl _), rfl, rfl⟩ ?_
        intro x9 ls hI ih48
        obtain ⟨k, a, p9⟩ := x9
        obtain ⟨hl, hk, ha, hp, hqa, hqp⟩ := hI
        have hl : lv_has ls 11 [(5, .int (nI k)), (4, .int (nI p9)), (3, .int (nI a)), (2, .int (k_both (nI v))), (0, .ref (q 0)), (1, .int (nI v))] := hl
        refine lv_iload hx hb dX1_eliminate_48 (lv_at hl 0 rfl) ?_
        refine lv_aload_n hx hb dX1_eliminate_50 rfl (lv_at hl 4 rfl) ?_
        refine va_get (v := .int (nI (yn S))) hx hb hts hinX1 hown hK hP 0 rfl rfl 1 (by decide) hf33 (fun _ h9 => h9) rfl dX1_eliminate_51 ?_
        refine lv_icmp_ge (tgt := 109) hx hb dX1_eliminate_54 (by decide) (fun hc54 => ?_) (fun hc54 => ?_)
        · have hge : yn S ≤ k := (nI_leI (by omega) (by omega)).mp hc54
          have ga : q_cw (vML S) (k_both (nI v)) = a := by
            unfold q_cw
            rw [vML_len]
            exact hqa.trans (q_ct_end hge)
          have gp : 1 + q_cw (vML S) (k_pos (nI v)) = p9 := by
            have z := hqp.trans (q_ct_end hge)
            rw [q_ct_acc] at z
            unfold q_cw
            rw [vML_len]
            exact z
          refine lv_aload_n hx hb dX1_eliminate_109 rfl (lv_at hl 4 rfl) ?_
          refine va_get (v := .int (nI (yn S))) hx hb hts hinX1 hown hK hP 0 rfl rfl 1 (by decide) hf33 (fun _ h9 => h9) rfl dX1_eliminate_110 ?_
          refine lv_istore (lv' := [(5, .int (nI (yn S))), (4, .int (nI p9)), (3, .int (nI a)), (2, .int (k_both (nI v))), (0, .ref (q 0)), (1, .int (nI v))]) hx hb dX1_eliminate_113 hl (by decide) rfl (fun ls hl => ?_)
          refine lv_aload_n hx hb dX1_eliminate_115 rfl (lv_at hl 4 rfl) ?_
          refine va_get (v := .int (ym S)) hx hb hts hinX1 hown hK hP 0 rfl rfl 4 (by decide) hf43 (fun _ h9 => h9) rfl dX1_eliminate_116 ?_
          refine lv_istore (lv' := [(6, .int (ym S)), (5, .int (nI (yn S))), (4, .int (nI p9)), (3, .int (nI a)), (2, .int (k_both (nI v))), (0, .ref (q 0)), (1, .int (nI v))]) hx hb dX1_eliminate_119 hl (by decide) rfl (fun ls hl => ?_)
          refine lv_aload_n hx hb dX1_eliminate_121 rfl (lv_at hl 5 rfl) ?_
          refine lv_iload_n hx hb dX1_eliminate_122 rfl (lv_at hl 6 rfl) ?_
          refine xc_wi (As := [.int (nI v)]) (rest := []) ⟨hx, hb, hml, hown, hts⟩ (kX1_resolve l D q cA (yk (yd S) (yn S) (ym S) (yh S) (yg S) (yt S) 0 (yse S) (ynu S) (yes S) (yel S) (ygi S)) ⟨hn40, hh200, hg100⟩ v h1 h2 hg hn9 _) (cwV 1 hts (gd_V bw_353 bw_354 bw_444 bw_2 bw_355) rfl rfl rfl (by decide +kernel) ⟨Nat.le_of_ble_eq_true rfl, Nat.le_of_ble_eq_true rfl⟩) (va_recv (ci := 1) (q0 := 0) hK hP rfl rfl) hP hK hD hS hA rfl hl.1 rfl (Nat.le_of_ble_eq_true rfl) dX1_eliminate_123 ⟨Nat.zero_le _, Nat.zero_le _⟩ (fun r1 u1 H locs hu1 hP hD hS => ?_)
          obtain ⟨e1, e2, e3, e4, e5⟩ : r1 = nI R.length ∧ yn u1 = yn S + R.length ∧ ym u1 = q_mm (ym S) R ∧ vML u1 = (q_app (vML S) (ym S) R) ∧ u1 = (yk (yd S) (yn u1) (ym u1) (yh S) (yg S) (yt S) 0 (yse u1) (ynu u1) (yes S) (yel S) (ygi S)) := by rw [← hR]; exact hu1
          subst e1
          have hP : va_P D vwCl (wM q cA (yk (yd S) (yn S + R.length) (q_mm (ym S) R) (yh S) (yg S) (yt S) 0 (yse u1) (ynu u1) (yes S) (yel S) (ygi S))) H := by rw [e5, e2, e3] at hP; exact hP
          have hD : va_D (va_A (wM q cA S) s.heap.size) (wM q cA (yk (yd S) (yn S + R.length) (q_mm (ym S) R) (yh S) (yg S) (yt S) 0 (yse u1) (ynu u1) (yes S) (yel S) (ygi S))) := by rw [e5, e2, e3] at hD; exact hD
          have hcl : cl_of (yn S + R.length) (yse u1) (ynu u1) = (q_app (vML S) (ym S) R) := by rw [← e2]; exact e4
          have hRl : yn S + R.length ≤ 90 := by rw [← hR, ← vML_len S]; exact mg2_len _ _ _ (by rw [vML_len]; show yn S + 0 ≤ 90; omega)
          refine lv_istore (lv' := [(7, .int (nI R.length)), (6, .int (ym S)), (5, .int (nI (yn S))), (4, .int (nI p9)), (3, .int (nI a)), (2, .int (k_both (nI v))), (0, .ref (q 0)), (1, .int (nI v))]) hx hb dX1_eliminate_126 hl (by decide) rfl (fun ls hl => ?_)
          refine lv_iload hx hb dX1_eliminate_128 (lv_at hl 0 rfl) ?_
          refine lv_iload_n hx hb dX1_eliminate_130 rfl (lv_at hl 4 rfl) ?_
          refine lv_icmp_le (tgt := 138) hx hb dX1_eliminate_131 (by decide) (fun hc131 => ?_) (fun hc131 => ?_)
          · refine lv_iconst (v := 0) hx hb dX1_eliminate_138 (by decide) ?_
            refine lv_istore (lv' := [(8, .int 0), (7, .int (nI R.length)), (6, .int (ym S)), (5, .int (nI (yn S))), (4, .int (nI p9)), (3, .int (nI a)), (2, .int (k_both (nI v))), (0, .ref (q 0)), (1, .int (nI v))]) hx hb dX1_eliminate_139 hl (by decide) rfl (fun ls hl => ?_)
            refine lv_aload_n hx hb dX1_eliminate_141 rfl (lv_at hl 7 rfl) ?_
            refine lv_iload hx hb dX1_eliminate_142 (lv_at hl 0 rfl) ?_
            refine lv_if_ne (tgt := 164) hx hb dX1_eliminate_144 (by decide) (fun hc144 => ?_) (fun hc144 => ?_)
            · exact absurd hc144 (by decide)
            · refine lv_aload_n hx hb dX1_eliminate_147 rfl (lv_at hl 7 rfl) ?_
              refine va_get (v := .int (nI (yh S))) hx hb hts hinX1 hown hK hP 0 rfl rfl 5 (by decide) hf65 (fun _ h9 => h9) rfl dX1_eliminate_148 ?_
              refine lv_iload hx hb dX1_eliminate_151 (lv_at hl 4 rfl) ?_
              refine xi_add hx hb dX1_eliminate_153 ?_
              refine lv_sipush (v := 200) hx hb dX1_eliminate_154 (by decide) ?_
              refine lv_icmp_le (tgt := 164) hx hb dX1_eliminate_157 (by decide) (fun hc157 => ?_) (fun hc157 => ?_)
              · exact absurd ((nI_leI (b := 200) (by omega) (by decide)).mp hc157) (by omega)
              · refine lv_iconst (v := 2) hx hb dX1_eliminate_160 (by decide) ?_
                refine lv_goto (tgt := 165) hx hb dX1_eliminate_161 (by decide) ?_
                refine va_put (v := .int 2) (ty := .int) hx hb hts hinX1 tyX1 tyX1_ok nmX1 hown hK hP hD hS 0 rfl rfl 11 (by decide) hf25 (fun _ h9 => h9) rfl (by decide +kernel) rfl rfl (Nat.le_of_ble_eq_true rfl) dX1_eliminate_165 (fun H locs hP hD hS => ?_)
                have hP : va_P D vwCl (wM q cA (yk (yd S) (yn S + R.length) (q_mm (ym S) R) (yh S) (yg S) (yt S) 2 (yse u1) (ynu u1) (yes S) (yel S) (ygi S))) H := hP
                have hD : va_D _ (wM q cA (yk (yd S) (yn S + R.length) (q_mm (ym S) R) (yh S) (yg S) (yt S) 2 (yse u1) (ynu u1) (yes S) (yel S) (ygi S))) := hD
                refine lv_iload hx hb dX1_eliminate_168 (lv_at hl 0 rfl) ?_
                refine lv_if_ne (tgt := 180) hx hb dX1_eliminate_170 (by decide) (fun hc170 => ?_) (fun hc170 => ?_)
                · exact absurd hc170 (by decide)
                · refine lv_aload_n hx hb dX1_eliminate_173 rfl (lv_at hl 7 rfl) ?_
                  refine va_get (v := .int 2) hx hb hts hinX1 hown hK hP 0 rfl rfl 11 (by decide) hf25 (fun _ h9 => h9) rfl dX1_eliminate_174 ?_
                  refine lv_if_eq (tgt := 205) hx hb dX1_eliminate_177 (by decide) (fun hc177 => ?_) (fun hc177 => ?_)
                  · exact absurd hc177 (by decide)
                  · refine lv_aload_n hx hb dX1_eliminate_180 rfl (lv_at hl 7 rfl) ?_
                    refine lv_iload hx hb dX1_eliminate_181 (lv_at hl 3 rfl) ?_
                    refine va_put (v := .int (nI (yn S))) (ty := .int) hx hb hts hinX1 tyX1 tyX1_ok nmX1 hown hK hP hD hS 0 rfl rfl 1 (by decide) hf33 (fun _ h9 => h9) rfl (by decide +kernel) rfl rfl (Nat.le_of_ble_eq_true rfl) dX1_eliminate_183 (fun H locs hP hD hS => ?_)
                    have hP : va_P D vwCl (wM q cA (yk (yd S) (yn S) (q_mm (ym S) R) (yh S) (yg S) (yt S) 2 (yse u1) (ynu u1) (yes S) (yel S) (ygi S))) H := hP
                    have hD : va_D _ (wM q cA (yk (yd S) (yn S) (q_mm (ym S) R) (yh S) (yg S) (yt S) 2 (yse u1) (ynu u1) (yes S) (yel S) (ygi S))) := hD
                    refine lv_aload_n hx hb dX1_eliminate_186 rfl (lv_at hl 7 rfl) ?_
                    refine lv_iload hx hb dX1_eliminate_187 (lv_at hl 2 rfl) ?_
                    refine va_put (v := .int (ym S)) (ty := .int) hx hb hts hinX1 tyX1 tyX1_ok nmX1 hown hK hP hD hS 0 rfl rfl 4 (by decide) hf43 (fun _ h9 => h9) rfl (by decide +kernel) rfl rfl (Nat.le_of_ble_eq_true rfl) dX1_eliminate_189 (fun H locs hP hD hS => ?_)
                    have hP : va_P D vwCl (wM q cA (yk (yd S) (yn S) (ym S) (yh S) (yg S) (yt S) 2 (yse u1) (ynu u1) (yes S) (yel S) (ygi S))) H := hP
                    have hD : va_D _ (wM q cA (yk (yd S) (yn S) (ym S) (yh S) (yg S) (yt S) 2 (yse u1) (ynu u1) (yes S) (yel S) (ygi S))) := hD
                    refine lv_aload_n hx hb dX1_eliminate_192 rfl (lv_at hl 7 rfl) ?_
                    refine va_get (v := .int 2) hx hb hts hinX1 hown hK hP 0 rfl rfl 11 (by decide) hf25 (fun _ h9 => h9) rfl dX1_eliminate_193 ?_
                    refine lv_if_ne (tgt := 203) hx hb dX1_eliminate_196 (by decide) (fun hc196 => ?_) (fun hc196 => ?_)
                    · refine lv_iconst (v := 0) hx hb dX1_eliminate_203 (by decide) ?_
                      have hpo : (0 : Int32) = 0 ∧ vML (yk (yd S) (yn S) (ym S) (yh S) (yg S) (yt S) 2 (yse u1) (ynu u1) (yes S) (yel S) (ygi S)) = vML S ∧ (yk (yd S) (yn S) (ym S) (yh S) (yg S) (yt S) 2 (yse u1) (ynu u1) (yes S) (yel S) (ygi S)) = (yk (yd S) (yn S) (ym S) (yh S) (yg S) (yt S) 2 (yse (yk (yd S) (yn S) (ym S) (yh S) (yg S) (yt S) 2 (yse u1) (ynu u1) (yes S) (yel S) (ygi S))) (ynu (yk (yd S) (yn S) (ym S) (yh S) (yg S) (yt S) 2 (yse u1) (ynu u1) (yes S) (yel S) (ygi S))) (yes S) (yel S) (ygi S)) := ⟨rfl, cl_trunc hcl (vML_len S), rfl⟩
                      exact W.iret (v := 0) hx hb hr (fun t ht hW => ⟨⟨0, (yk (yd S) (yn S) (ym S) (yh S) (yg S) (yt S) 2 (yse u1) (ynu u1) (yes S) (yel S) (ygi S)), rfl, hpo, by rw [ht]; exact hP, va_K.moved hW.alike hK, hD⟩, hS.F ht⟩) hS.2.2 dX1_eliminate_204
                    · exact absurd hc196 (by decide)
          · exact absurd ((nI_leI (by omega) (by omega)).mpr (by omega)) hc131
        · have hlt : k < yn S := Nat.lt_of_not_le (fun z => hc54 ((nI_leI (by omega) (by omega)).mpr z))
          have hs : q_set (vML S) k = yse S k := q_set_of hlt
          refine lv_aload_n hx hb dX1_eliminate_57 rfl (lv_at hl 4 rfl) ?_
          refine va_get (v := .ref (q 1)) hx hb hts hinX1 hown hK hP 0 rfl rfl 2 (by decide) hf7 (fun _ h9 => h9) rfl dX1_eliminate_58 ?_
          refine lv_iload hx hb dX1_eliminate_61 (lv_at hl 0 rfl) ?_
          refine xa_ld hx hb hK hP 1 0 rfl rfl k (by omega) (by first | decide | assumption) dX1_eliminate_63 ?_
          refine lv_iload_n hx hb dX1_eliminate_64 rfl (lv_at hl 3 rfl) ?_
          refine lv_iand hx hb dX1_eliminate_65 ?_
          refine lv_if_eq (tgt := 75) hx hb dX1_eliminate_66 (by decide) (fun hc66 => ?_) (fun hc66 => ?_)
          · refine lv_iload_n hx hb dX1_eliminate_75 rfl (lv_at hl 2 rfl) ?_
            refine lv_istore_n (lv' := [(3, .int (nI a)), (5, .int (nI k)), (4, .int (nI p9)), (2, .int (k_both (nI v))), (0, .ref (q 0)), (1, .int (nI v))]) hx hb dX1_eliminate_76 rfl hl (by decide) rfl (fun ls hl => ?_)
            refine lv_aload_n hx hb dX1_eliminate_77 rfl (lv_at hl 4 rfl) ?_
            refine va_get (v := .ref (q 1)) hx hb hts hinX1 hown hK hP 0 rfl rfl 2 (by decide) hf7 (fun _ h9 => h9) rfl dX1_eliminate_78 ?_
            refine lv_iload hx hb dX1_eliminate_81 (lv_at hl 1 rfl) ?_
            refine xa_ld hx hb hK hP 1 0 rfl rfl k (by omega) (by first | decide | assumption) dX1_eliminate_83 ?_
            refine lv_iload_n hx hb dX1_eliminate_84 rfl (lv_at hl 5 rfl) ?_
            refine xc_s (As := [.int (nI v)]) (rest := [.int ((yse S) k)]) ⟨hx, hb, hml, hown, hts⟩ (kX1_bit l (nI v)) (va_cwS 1 hts (gd_S bw_293 bw_294 bw_2 bw_295) rfl rfl rfl (by decide +kernel) ⟨Nat.le_of_ble_eq_true rfl, Nat.le_of_ble_eq_true rfl⟩) rfl hl.1 rfl (Nat.le_of_ble_eq_true rfl) dX1_eliminate_85 ⟨Nat.zero_le _, Nat.zero_le _⟩ ?_
            refine lv_iand hx hb dX1_eliminate_88 ?_
            refine lv_if_eq (tgt := 99) hx hb dX1_eliminate_89 (by decide) (fun hc89 => ?_) (fun hc89 => ?_)
            · rw [m_bit_pos v (by omega) h1] at hc89
              refine lv_iload hx hb dX1_eliminate_99 (lv_at hl 2 rfl) ?_
              refine lv_istore (lv' := [(4, .int (nI p9)), (3, .int (nI a)), (5, .int (nI k)), (2, .int (k_both (nI v))), (0, .ref (q 0)), (1, .int (nI v))]) hx hb dX1_eliminate_101 hl (by decide) rfl (fun ls hl => ?_)
              refine lv_iinc (k := 2) (v := nI (k + 1)) (lv' := [(5, .int (nI (k + 1))), (4, .int (nI p9)), (3, .int (nI a)), (2, .int (k_both (nI v))), (0, .ref (q 0)), (1, .int (nI v))]) hx hb dX1_eliminate_103 hl rfl (ii_1 _) (by decide) rfl (fun ls hl => ?_)
              refine lv_goto (tgt := 48) hx hb dX1_eliminate_106 (by decide) ?_
              exact ih48 (k + 1, a, p9) _ ⟨lv_sub hl [0, 1, 2, 3, 4, 5] rfl, (by omega), (by omega), (by omega), (hqa.trans (q_ct_f hlt (by simp [hs, hc66]))), (hqp.trans (q_ct_f hlt (by simp [hs, hc89])))⟩ (by show yn S - (k + 1) < yn S - k; omega)
            · rw [m_bit_pos v (by omega) h1] at hc89
              refine lv_iload hx hb dX1_eliminate_92 (lv_at hl 2 rfl) ?_
              refine lv_iconst (v := 1) hx hb dX1_eliminate_94 (by decide) ?_
              refine xi_inc hx hb dX1_eliminate_95 ?_
              refine lv_goto (tgt := 101) hx hb dX1_eliminate_96 (by decide) ?_
              refine lv_istore (lv' := [(4, .int (nI (p9 + 1))), (3, .int (nI a)), (5, .int (nI k)), (2, .int (k_both (nI v))), (0, .ref (q 0)), (1, .int (nI v))]) hx hb dX1_eliminate_101 hl (by decide) rfl (fun ls hl => ?_)
              refine lv_iinc (k := 2) (v := nI (k + 1)) (lv' := [(5, .int (nI (k + 1))), (4, .int (nI (p9 + 1))), (3, .int (nI a)), (2, .int (k_both (nI v))), (0, .ref (q 0)), (1, .int (nI v))]) hx hb dX1_eliminate_103 hl rfl (ii_1 _) (by decide) rfl (fun ls hl => ?_)
              refine lv_goto (tgt := 48) hx hb dX1_eliminate_106 (by decide) ?_
              exact ih48 (k + 1, a, p9 + 1) _ ⟨lv_sub hl [0, 1, 2, 3, 4, 5] rfl, (by omega), (by omega), (by omega), (hqa.trans (q_ct_f hlt (by simp [hs, hc66]))), (hqp.trans (q_ct_t hlt (by simp [hs, hc89])))⟩ (by show yn S - (k + 1) < yn S - k; omega)
          · refine lv_iload_n hx hb dX1_eliminate_69 rfl (lv_at hl 2 rfl) ?_
            refine lv_iconst (v := 1) hx hb dX1_eliminate_70 (by decide) ?_
            refine xi_inc hx hb dX1_eliminate_71 ?_
            refine lv_goto (tgt := 76) hx hb dX1_eliminate_72 (by decide) ?_
            refine lv_istore_n (lv' := [(3, .int (nI (a + 1))), (5, .int (nI k)), (4, .int (nI p9)), (2, .int (k_both (nI v))), (0, .ref (q 0)), (1, .int (nI v))]) hx hb dX1_eliminate_76 rfl hl (by decide) rfl (fun ls hl => ?_)
            refine lv_aload_n hx hb dX1_eliminate_77 rfl (lv_at hl 4 rfl) ?_
            refine va_get (v := .ref (q 1)) hx hb hts hinX1 hown hK hP 0 rfl rfl 2 (by decide) hf7 (fun _ h9 => h9) rfl dX1_eliminate_78 ?_
            refine lv_iload hx hb dX1_eliminate_81 (lv_at hl 1 rfl) ?_
            refine xa_ld hx hb hK hP 1 0 rfl rfl k (by omega) (by first | decide | assumption) dX1_eliminate_83 ?_
            refine lv_iload_n hx hb dX1_eliminate_84 rfl (lv_at hl 5 rfl) ?_
            refine xc_s (As := [.int (nI v)]) (rest := [.int ((yse S) k)]) ⟨hx, hb, hml, hown, hts⟩ (kX1_bit l (nI v)) (va_cwS 1 hts (gd_S bw_293 bw_294 bw_2 bw_295) rfl rfl rfl (by decide +kernel) ⟨Nat.le_of_ble_eq_true rfl, Nat.le_of_ble_eq_true rfl⟩) rfl hl.1 rfl (Nat.le_of_ble_eq_true rfl) dX1_eliminate_85 ⟨Nat.zero_le _, Nat.zero_le _⟩ ?_
            refine lv_iand hx hb dX1_eliminate_88 ?_
            refine lv_if_eq (tgt := 99) hx hb dX1_eliminate_89 (by decide) (fun hc89 => ?_) (fun hc89 => ?_)
            · rw [m_bit_pos v (by omega) h1] at hc89
              refine lv_iload hx hb dX1_eliminate_99 (lv_at hl 2 rfl) ?_
              refine lv_istore (lv' := [(4, .int (nI p9)), (3, .int (nI (a + 1))), (5, .int (nI k)), (2, .int (k_both (nI v))), (0, .ref (q 0)), (1, .int (nI v))]) hx hb dX1_eliminate_101 hl (by decide) rfl (fun ls hl => ?_)
              refine lv_iinc (k := 2) (v := nI (k + 1)) (lv' := [(5, .int (nI (k + 1))), (4, .int (nI p9)), (3, .int (nI (a + 1))), (2, .int (k_both (nI v))), (0, .ref (q 0)), (1, .int (nI v))]) hx hb dX1_eliminate_103 hl rfl (ii_1 _) (by decide) rfl (fun ls hl => ?_)
              refine lv_goto (tgt := 48) hx hb dX1_eliminate_106 (by decide) ?_
              exact ih48 (k + 1, a + 1, p9) _ ⟨lv_sub hl [0, 1, 2, 3, 4, 5] rfl, (by omega), (by omega), (by omega), (hqa.trans (q_ct_t hlt (by simp [hs, hc66]))), (hqp.trans (q_ct_f hlt (by simp [hs, hc89])))⟩ (by show yn S - (k + 1) < yn S - k; omega)
            · rw [m_bit_pos v (by omega) h1] at hc89
              refine lv_iload hx hb dX1_eliminate_92 (lv_at hl 2 rfl) ?_
              refine lv_iconst (v := 1) hx hb dX1_eliminate_94 (by decide) ?_
              refine xi_inc hx hb dX1_eliminate_95 ?_
              refine lv_goto (tgt := 101) hx hb dX1_eliminate_96 (by decide) ?_
              refine lv_istore (lv' := [(4, .int (nI (p9 + 1))), (3, .int (nI (a + 1))), (5, .int (nI k)), (2, .int (k_both (nI v))), (0, .ref (q 0)), (1, .int (nI v))]) hx hb dX1_eliminate_101 hl (by decide) rfl (fun ls hl => ?_)
              refine lv_iinc (k := 2) (v := nI (k + 1)) (lv' := [(5, .int (nI (k + 1))), (4, .int (nI (p9 + 1))), (3, .int (nI (a + 1))), (2, .int (k_both (nI v))), (0, .ref (q 0)), (1, .int (nI v))]) hx hb dX1_eliminate_103 hl rfl (ii_1 _) (by decide) rfl (fun ls hl => ?_)
              refine lv_goto (tgt := 48) hx hb dX1_eliminate_106 (by decide) ?_
              exact ih48 (k + 1, a + 1, p9 + 1) _ ⟨lv_sub hl [0, 1, 2, 3, 4, 5] rfl, (by omega), (by omega), (by omega), (hqa.trans (q_ct_t hlt (by simp [hs, hc66]))), (hqp.trans (q_ct_t hlt (by simp [hs, hc89])))⟩ (by show yn S - (k + 1) < yn S - k; omega)
      · exact absurd hc24 (by decide)
    · exact absurd (Int32.not_le.mp hc9) (isV_split.mp (isV_nI v (by omega) h1)).2

set_option maxHeartbeats 4000000 in
set_option maxRecDepth 100000 in
theorem kX1_eliminate_done (l : Launch) (D : va_G) (q : Nat → Nat) (cA : ClassId) (S : MS) (hok : okM S) (v : Nat) (h1 : 1 ≤ v) (h2 : v ≤ 10) (hg : g_cl (vML S)) (hn9 : yn S ≤ 40) (R : List Int32) (hR : m_g2 (vML S) (nI v) (yn S) 0 [] = R) (hm : R.length ≤ q_cw (vML S) (k_both (nI v))) (hf : yh S + q_cw (vML S) (k_pos (nI v)) + 1 ≤ 200) (sz : Nat) : xw_Mi l yX1_eliminate wsX1_eliminate ({ frames := 3, cells := 0, slots := 0, locals := 68 }) D vwCl [(cA, .int)] [.ref (q 0), .int (nI v)] (wM q cA S) sz (fun (r : Int32) (u : MS) => r = nI R.length ∧ vML u = q_app ((vML S).filter (fun c => (c.1 &&& k_both (nI v)) == 0)) (ym S) R ∧ ym u = q_mm (ym S) R ∧ vMT u = (vMT S ++ q_pal (k_pos (nI v)) (vML S)) ++ [(k_neg (nI v), k_neg (nI v))] ∧ yd u = yd S ∧ yt u = yt S ∧ yg u = yg S ∧ ygi u = ygi S ∧ yth u = 0 ∧ g_stp S u) (wM q cA) := by
  refine Met.ofW (cc := cX1_eliminate) (maxL := 11) (ret := (some .int)) (by decide) rfl ?_
  intro p e s m args below meth c s₁ B hml hv
  obtain ⟨rfl, hsz, hP, hK, hD0⟩ := hv
  subst hsz
  have hD := hD0.self (sz := s.heap.size)
  have hA : ∀ z, s.heap.size ≤ z → va_A (wM q cA S) s.heap.size z := fun z h => Or.inr h
  have hS : va_S (va_A (wM q cA S) s.heap.size) s.heap s.heap [] := va_S.rf
  obtain ⟨hn40, hh200, hg100⟩ := id hok
  have hx := B.exec
  have hb := B.bytes
  have hr := B.returns
  have hts := atoms_spec (ws := wsX1_eliminate) B.pre
  have hown : s.vm.findClass RX1 = some m.cls := findClass_of_methodNamed B.named
  have hlocks := B.notSynchronized
  have hinX1 : ∀ w ∈ u_ws RX1 TX1 12, w ∈ wsX1_eliminate := fun w h => List.mem_cons_of_mem _ (bw_X1 w h)
  have hf7 := hts _ (List.mem_cons_of_mem _ bw_260)
  have hf25 := hts _ (List.mem_cons_of_mem _ bw_269)
  have hf33 := hts _ (List.mem_cons_of_mem _ bw_259)
  have hf43 := hts _ (List.mem_cons_of_mem _ bw_262)
  have hf65 := hts _ (List.mem_cons_of_mem _ bw_263)
  have hl := lv_entry ([.ref (q 0), .int (nI v)]) (n := 11) (Nat.le_of_ble_eq_true rfl)
  rw [lg_entry_eq]
  generalize (lg_sl ([.ref (q 0), .int (nI v)]) ++ List.replicate (11 - (lg_sl ([.ref (q 0), .int (nI v)])).length) Slot.unset).toArray = ls at hl ⊢
  have hl : lv_has ls 11 [(0, .ref (q 0)), (1, .int (nI v))] := hl
  refine lv_aload_n hx hb dX1_eliminate_0 rfl (lv_at hl 0 rfl) ?_
  refine lv_iload_n hx hb dX1_eliminate_1 rfl (lv_at hl 1 rfl) ?_
  refine lv_iconst (v := 1) hx hb dX1_eliminate_2 (by decide) ?_
  refine lv_icmp_lt (tgt := 12) hx hb dX1_eliminate_3 (by decide) (fun hc3 => ?_) (fun hc3 => ?_)
  · exact absurd hc3 (isV_split.mp (isV_nI v (by omega) h1)).1
  · refine lv_iload_n hx hb dX1_eliminate_6 rfl (lv_at hl 1 rfl) ?_
    refine lv_bipush (v := 10) hx hb dX1_eliminate_7 (by decide) ?_
    refine lv_icmp_le (tgt := 16) hx hb dX1_eliminate_9 (by decide) (fun hc9 => ?_) (fun hc9 => ?_)
    · refine lv_iconst (v := 0) hx hb dX1_eliminate_16 (by decide) ?_
      refine va_put (v := .int 0) (ty := .int) hx hb hts hinX1 tyX1 tyX1_ok nmX1 hown hK hP hD hS 0 rfl rfl 11 (by decide) hf25 (fun _ h9 => h9) rfl (by decide +kernel) rfl rfl (Nat.le_of_ble_eq_true rfl) dX1_eliminate_17 (fun H locs hP hD hS => ?_)
      have hP : va_P D vwCl (wM q cA (yk (yd S) (yn S) (ym S) (yh S) (yg S) (yt S) 0 (yse S) (ynu S) (yes S) (yel S) (ygi S))) H := hP
      have hD : va_D _ (wM q cA (yk (yd S) (yn S) (ym S) (yh S) (yg S) (yt S) 0 (yse S) (ynu S) (yes S) (yel S) (ygi S))) := hD
      refine lv_aload_n hx hb dX1_eliminate_20 rfl (lv_at hl 0 rfl) ?_
      refine va_get (v := .int 0) hx hb hts hinX1 hown hK hP 0 rfl rfl 11 (by decide) hf25 (fun _ h9 => h9) rfl dX1_eliminate_21 ?_
      refine lv_if_eq (tgt := 29) hx hb dX1_eliminate_24 (by decide) (fun hc24 => ?_) (fun hc24 => ?_)
      · refine lv_iload_n hx hb dX1_eliminate_29 rfl (lv_at hl 1 rfl) ?_
        refine xc_s (As := [.int (nI v)]) (rest := []) ⟨hx, hb, hml, hown, hts⟩ (kX1_bit l (nI v)) (va_cwS 1 hts (gd_S bw_293 bw_294 bw_2 bw_295) rfl rfl rfl (by decide +kernel) ⟨Nat.le_of_ble_eq_true rfl, Nat.le_of_ble_eq_true rfl⟩) rfl hl.1 rfl (Nat.le_of_ble_eq_true rfl) dX1_eliminate_30 ⟨Nat.zero_le _, Nat.zero_le _⟩ ?_
        refine lv_iload_n hx hb dX1_eliminate_33 rfl (lv_at hl 1 rfl) ?_
        refine lv_ineg hx hb dX1_eliminate_34 ?_
        refine xc_s (As := [.int (-(nI v))]) (rest := [.int (m_bit (nI v))]) ⟨hx, hb, hml, hown, hts⟩ (kX1_bit l (-(nI v))) (va_cwS 1 hts (gd_S bw_293 bw_294 bw_2 bw_295) rfl rfl rfl (by decide +kernel) ⟨Nat.le_of_ble_eq_true rfl, Nat.le_of_ble_eq_true rfl⟩) rfl hl.1 rfl (Nat.le_of_ble_eq_true rfl) dX1_eliminate_35 ⟨Nat.zero_le _, Nat.zero_le _⟩ ?_
        refine lv_ior hx hb dX1_eliminate_38 ?_
        refine lv_topi (fun z1 ez1 => ?_)
        obtain rfl : z1 = k_both (nI v) := ez1.trans (mb_both v (by omega) h1)
        refine lv_istore_n (lv' := [(2, .int (k_both (nI v))), (0, .ref (q 0)), (1, .int (nI v))]) hx hb dX1_eliminate_39 rfl hl (by decide) rfl (fun ls hl => ?_)
        refine lv_iconst (v := 0) hx hb dX1_eliminate_40 (by decide) ?_
        refine lv_istore_n (lv' := [(3, .int 0), (2, .int (k_both (nI v))), (0, .ref (q 0)), (1, .int (nI v))]) hx hb dX1_eliminate_41 rfl hl (by decide) rfl (fun ls hl => ?_)
        refine lv_iconst (v := 1) hx hb dX1_eliminate_42 (by decide) ?_
        refine lv_istore (lv' := [(4, .int 1), (3, .int 0), (2, .int (k_both (nI v))), (0, .ref (q 0)), (1, .int (nI v))]) hx hb dX1_eliminate_43 hl (by decide) rfl (fun ls hl => ?_)
        refine lv_iconst (v := 0) hx hb dX1_eliminate_45 (by decide) ?_
        refine lv_istore (lv' := [(5, .int 0), (4, .int 1), (3, .int 0), (2, .int (k_both (nI v))), (0, .ref (q 0)), (1, .int (nI v))]) hx hb dX1_eliminate_46 hl (by decide) rfl (fun ls hl => ?_)
        refine wlr (σ := Nat × Nat × Nat) (fun (x9 : Nat × Nat × Nat) ls => match x9 with | (k, a, p9) => lv_has ls 11 [(5, .int (nI k)), (4, .int (nI p9)), (3, .int (nI a)), (2, .int (k_both (nI v))), (0, .ref (q 0)), (1, .int (nI v))] ∧ k ≤ yn S ∧ a ≤ k ∧ p9 ≤ k + 1 ∧ q_ct (fun i => (q_set (vML S) i &&& k_both (nI v)) != 0) (yn S - 0) 0 0 = q_ct (fun i => (q_set (vML S) i &&& k_both (nI v)) != 0) (yn S - k) k a ∧ q_ct (fun i => (q_set (vML S) i &&& k_pos (nI v)) != 0) (yn S - 0) 0 1 = q_ct (fun i => (q_set (vML S) i &&& k_pos (nI v)) != 0) (yn S - k) k p9) (fun (x9 : Nat × Nat × Nat) => match x9 with | (k, a, p9) => yn S - k) (0, 0, 1) ⟨lv_sub hl [0, 1, 2, 3, 4, 5] rfl, (Nat.zero_le _), (Nat.zero_le _), (Nat.le_refl _), rfl, rfl⟩ ?_
        intro x9 ls hI ih48
        obtain ⟨k, a, p9⟩ := x9
        obtain ⟨hl, hk, ha, hp, hqa, hqp⟩ := hI
        have hl : lv_has ls 11 [(5, .int (nI k)), (4, .int (nI p9)), (3, .int (nI a)), (2, .int (k_both (nI v))), (0, .ref (q 0)), (1, .int (nI v))] := hl
        refine lv_iload hx hb dX1_eliminate_48 (lv_at hl 0 rfl) ?_
        refine lv_aload_n hx hb dX1_eliminate_50 rfl (lv_at hl 4 rfl) ?_
        refine va_get (v := .int (nI (yn S))) hx hb hts hinX1 hown hK hP 0 rfl rfl 1 (by decide) hf33 (fun _ h9 => h9) rfl dX1_eliminate_51 ?_
        refine lv_icmp_ge (tgt := 109) hx hb dX1_eliminate_54 (by decide) (fun hc54 => ?_) (fun hc54 => ?_)
        · have hge : yn S ≤ k := (nI_leI (by omega) (by omega)).mp hc54
          have ga : q_cw (vML S) (k_both (nI v)) = a := by
            unfold q_cw
            rw [vML_len]
            exact hqa.trans (q_ct_end hge)
          have gp : 1 + q_cw (vML S) (k_pos (nI v)) = p9 := by
            have z := hqp.trans (q_ct_end hge)
            rw [q_ct_acc] at z
            unfold q_cw
            rw [vML_len]
            exact z
          refine lv_aload_n hx hb dX1_eliminate_109 rfl (lv_at hl 4 rfl) ?_
          refine va_get (v := .int (nI (yn S))) hx hb hts hinX1 hown hK hP 0 rfl rfl 1 (by decide) hf33 (fun _ h9 => h9) rfl dX1_eliminate_110 ?_
          refine lv_istore (lv' := [(5, .int (nI (yn S))), (4, .int (nI p9)), (3, .int (nI a)), (2, .int (k_both (nI v))), (0, .ref (q 0)), (1, .int (nI v))]) hx hb dX1_eliminate_113 hl (by decide) rfl (fun ls hl => ?_)
          refine lv_aload_n hx hb dX1_eliminate_115 rfl (lv_at hl 4 rfl) ?_
          refine va_get (v := .int (ym S)) hx hb hts hinX1 hown hK hP 0 rfl rfl 4 (by decide) hf43 (fun _ h9 => h9) rfl dX1_eliminate_116 ?_
          refine lv_istore (lv' := [(6, .int (ym S)), (5, .int (nI (yn S))), (4, .int (nI p9)), (3, .int (nI a)), (2, .int (k_both (nI v))), (0, .ref (q 0)), (1, .int (nI v))]) hx hb dX1_eliminate_119 hl (by decide) rfl (fun ls hl => ?_)
          refine lv_aload_n hx hb dX1_eliminate_121 rfl (lv_at hl 5 rfl) ?_
          refine lv_iload_n hx hb dX1_eliminate_122 rfl (lv_at hl 6 rfl) ?_
          refine xc_wi (As := [.int (nI v)]) (rest := []) ⟨hx, hb, hml, hown, hts⟩ (kX1_resolve l D q cA (yk (yd S) (yn S) (ym S) (yh S) (yg S) (yt S) 0 (yse S) (ynu S) (yes S) (yel S) (ygi S)) ⟨hn40, hh200, hg100⟩ v h1 h2 hg hn9 _) (cwV 1 hts (gd_V bw_353 bw_354 bw_444 bw_2 bw_355) rfl rfl rfl (by decide +kernel) ⟨Nat.le_of_ble_eq_true rfl, Nat.le_of_ble_eq_true rfl⟩) (va_recv (ci := 1) (q0 := 0) hK hP rfl rfl) hP hK hD hS hA rfl hl.1 rfl (Nat.le_of_ble_eq_true rfl) dX1_eliminate_123 ⟨Nat.zero_le _, Nat.zero_le _⟩ (fun r1 u1 H locs hu1 hP hD hS => ?_)
          obtain ⟨e1, e2, e3, e4, e5⟩ : r1 = nI R.length ∧ yn u1 = yn S + R.length ∧ ym u1 = q_mm (ym S) R ∧ vML u1 = (q_app (vML S) (ym S) R) ∧ u1 = (yk (yd S) (yn u1) (ym u1) (yh S) (yg S) (yt S) 0 (yse u1) (ynu u1) (yes S) (yel S) (ygi S)) := by rw [← hR]; exact hu1
          subst e1
          have hP : va_P D vwCl (wM q cA (yk (yd S) (yn S + R.length) (q_mm (ym S) R) (yh S) (yg S) (yt S) 0 (yse u1) (ynu u1) (yes S) (yel S) (ygi S))) H := by rw [e5, e2, e3] at hP; exact hP
          have hD : va_D (va_A (wM q cA S) s.heap.size) (wM q cA (yk (yd S) (yn S + R.length) (q_mm (ym S) R) (yh S) (yg S) (yt S) 0 (yse u1) (ynu u1) (yes S) (yel S) (ygi S))) := by rw [e5, e2, e3] at hD; exact hD
          have hcl : cl_of (yn S + R.length) (yse u1) (ynu u1) = (q_app (vML S) (ym S) R) := by rw [← e2]; exact e4
          have hRl : yn S + R.length ≤ 90 := by rw [← hR, ← vML_len S]; exact mg2_len _ _ _ (by rw [vML_len]; show yn S + 0 ≤ 90; omega)
          refine lv_istore (lv' := [(7, .int (nI R.length)), (6, .int (ym S)), (5, .int (nI (yn S))), (4, .int (nI p9)), (3, .int (nI a)), (2, .int (k_both (nI v))), (0, .ref (q 0)), (1, .int (nI v))]) hx hb dX1_eliminate_126 hl (by decide) rfl (fun ls hl => ?_)
          refine lv_iload hx hb dX1_eliminate_128 (lv_at hl 0 rfl) ?_
          refine lv_iload_n hx hb dX1_eliminate_130 rfl (lv_at hl 4 rfl) ?_
          refine lv_icmp_le (tgt := 138) hx hb dX1_eliminate_131 (by decide) (fun hc131 => ?_) (fun hc131 => ?_)
          · refine lv_iconst (v := 0) hx hb dX1_eliminate_138 (by decide) ?_
            refine lv_istore (lv' := [(8, .int 0), (7, .int (nI R.length)), (6, .int (ym S)), (5, .int (nI (yn S))), (4, .int (nI p9)), (3, .int (nI a)), (2, .int (k_both (nI v))), (0, .ref (q 0)), (1, .int (nI v))]) hx hb dX1_eliminate_139 hl (by decide) rfl (fun ls hl => ?_)
            refine lv_aload_n hx hb dX1_eliminate_141 rfl (lv_at hl 7 rfl) ?_
            refine lv_iload hx hb dX1_eliminate_142 (lv_at hl 0 rfl) ?_
            refine lv_if_ne (tgt := 164) hx hb dX1_eliminate_144 (by decide) (fun hc144 => ?_) (fun hc144 => ?_)
            · exact absurd hc144 (by decide)
            · refine lv_aload_n hx hb dX1_eliminate_147 rfl (lv_at hl 7 rfl) ?_
              refine va_get (v := .int (nI (yh S))) hx hb hts hinX1 hown hK hP 0 rfl rfl 5 (by decide) hf65 (fun _ h9 => h9) rfl dX1_eliminate_148 ?_
              refine lv_iload hx hb dX1_eliminate_151 (lv_at hl 4 rfl) ?_
              refine xi_add hx hb dX1_eliminate_153 ?_
              refine lv_sipush (v := 200) hx hb dX1_eliminate_154 (by decide) ?_
              refine lv_icmp_le (tgt := 164) hx hb dX1_eliminate_157 (by decide) (fun hc157 => ?_) (fun hc157 => ?_)
              · refine lv_iconst (v := 0) hx hb dX1_eliminate_164 (by decide) ?_
                refine va_put (v := .int 0) (ty := .int) hx hb hts hinX1 tyX1 tyX1_ok nmX1 hown hK hP hD hS 0 rfl rfl 11 (by decide) hf25 (fun _ h9 => h9) rfl (by decide +kernel) rfl rfl (Nat.le_of_ble_eq_true rfl) dX1_eliminate_165 (fun H locs hP hD hS => ?_)
                have hP : va_P D vwCl (wM q cA (yk (yd S) (yn S + R.length) (q_mm (ym S) R) (yh S) (yg S) (yt S) 0 (yse u1) (ynu u1) (yes S) (yel S) (ygi S))) H := hP
                have hD : va_D _ (wM q cA (yk (yd S) (yn S + R.length) (q_mm (ym S) R) (yh S) (yg S) (yt S) 0 (yse u1) (ynu u1) (yes S) (yel S) (ygi S))) := hD
                refine lv_iload hx hb dX1_eliminate_168 (lv_at hl 0 rfl) ?_
                refine lv_if_ne (tgt := 180) hx hb dX1_eliminate_170 (by decide) (fun hc170 => ?_) (fun hc170 => ?_)
                · exact absurd hc170 (by decide)
                · refine lv_aload_n hx hb dX1_eliminate_173 rfl (lv_at hl 7 rfl) ?_
                  refine va_get (v := .int 0) hx hb hts hinX1 hown hK hP 0 rfl rfl 11 (by decide) hf25 (fun _ h9 => h9) rfl dX1_eliminate_174 ?_
                  refine lv_if_eq (tgt := 205) hx hb dX1_eliminate_177 (by decide) (fun hc177 => ?_) (fun hc177 => ?_)
                  · refine lv_iconst (v := 0) hx hb dX1_eliminate_205 (by decide) ?_
                    refine lv_istore (lv' := [(9, .int 0), (8, .int 0), (7, .int (nI R.length)), (6, .int (ym S)), (5, .int (nI (yn S))), (4, .int (nI p9)), (3, .int (nI a)), (2, .int (k_both (nI v))), (0, .ref (q 0)), (1, .int (nI v))]) hx hb dX1_eliminate_206 hl (by decide) rfl (fun ls hl => ?_)
                    refine wlw (σ := Nat × Nat × (Nat → Int32) × (Nat → Int32)) (fun (x9 : Nat × Nat × (Nat → Int32) × (Nat → Int32)) (H : Heap) (locs : List Loc) ls => match x9 with | (k2, h2, f2, g2) => lv_has ls 11 [(9, .int (nI k2)), (7, .int (nI R.length)), (5, .int (nI (yn S))), (2, .int (k_both (nI v))), (0, .ref (q 0)), (1, .int (nI v))] ∧ va_P D vwCl (wM q cA (yk (yd S) (yn S + R.length) (q_mm (ym S) R) h2 (yg S) (yt S) 0 (yse u1) (ynu u1) f2 g2 (ygi S))) H ∧ va_D (va_A (wM q cA S) s.heap.size) (wM q cA (yk (yd S) (yn S + R.length) (q_mm (ym S) R) h2 (yg S) (yt S) 0 (yse u1) (ynu u1) f2 g2 (ygi S))) ∧ va_S (va_A (wM q cA S) s.heap.size) s.heap H locs ∧ k2 ≤ yn S ∧ (cl_of h2 f2 g2).map (fun c => (c.1, m_bit c.2)) = vMT S ++ q_pal (k_pos (nI v)) (cl_of k2 (yse S) (ynu S)) ∧ (g_st (vMR S) → g_st (cl_of h2 f2 g2)) ∧ h2 + q_ct (fun i => (q_set (vML S) i &&& k_pos (nI v)) != 0) (yn S - k2) k2 0 + 1 ≤ 200) (fun (x9 : Nat × Nat × (Nat → Int32) × (Nat → Int32)) => match x9 with | (k2, h2, f2, g2) => yn S - k2) (0, yh S, yes S, yel S) ⟨lv_sub hl [0, 2, 4, 7, 8, 9] rfl, hP, hD, hS, (Nat.zero_le _), (List.append_nil _).symm, id, (by have z := gp; unfold q_cw at z; rw [vML_len] at z; show yh S + q_ct (fun i => (q_set (vML S) i &&& k_pos (nI v)) != 0) (yn S) 0 0 + 1 ≤ 200; omega)⟩ ?_
                    intro x9 H locs ls hI ih208
                    obtain ⟨k2, h2, f2, g2⟩ := x9
                    obtain ⟨hl, hP, hD, hS, hk2, hT, hgs, hro⟩ := hI
                    have hl : lv_has ls 11 [(9, .int (nI k2)), (7, .int (nI R.length)), (5, .int (nI (yn S))), (2, .int (k_both (nI v))), (0, .ref (q 0)), (1, .int (nI v))] := hl
                    refine lv_iload hx hb dX1_eliminate_208 (lv_at hl 0 rfl) ?_
                    refine lv_iload hx hb dX1_eliminate_210 (lv_at hl 2 rfl) ?_
                    refine lv_icmp_ge (tgt := 258) hx hb dX1_eliminate_212 (by decide) (fun hc212 => ?_) (fun hc212 => ?_)
                    · have hge2 : yn S ≤ k2 := (nI_leI (by omega) (by omega)).mp hc212
                      have hkn : k2 = yn S := by omega
                      rw [hkn] at hT
                      refine lv_aload_n hx hb dX1_eliminate_258 rfl (lv_at hl 4 rfl) ?_
                      refine lv_iload_n hx hb dX1_eliminate_259 rfl (lv_at hl 5 rfl) ?_
                      refine lv_ineg hx hb dX1_eliminate_260 ?_
                      refine xc_s (As := [.int (-(nI v))]) (rest := [.ref (q 0)]) ⟨hx, hb, hml, hown, hts⟩ (kX1_bit l (-(nI v))) (va_cwS 1 hts (gd_S bw_293 bw_294 bw_2 bw_295) rfl rfl rfl (by decide +kernel) ⟨Nat.le_of_ble_eq_true rfl, Nat.le_of_ble_eq_true rfl⟩) rfl hl.1 rfl (Nat.le_of_ble_eq_true rfl) dX1_eliminate_261 ⟨Nat.zero_le _, Nat.zero_le _⟩ ?_
                      refine lv_iload_n hx hb dX1_eliminate_264 rfl (lv_at hl 5 rfl) ?_
                      refine lv_ineg hx hb dX1_eliminate_265 ?_
                      refine xc_wi (As := [.int (m_bit (-(nI v))), .int (-(nI v))]) (rest := []) ⟨hx, hb, hml, hown, hts⟩ (kX1_push l D q cA (yk (yd S) (yn S + R.length) (q_mm (ym S) R) h2 (yg S) (yt S) 0 (yse u1) (ynu u1) f2 g2 (ygi S)) ⟨hRl, (show h2 ≤ 200 by omega), hg100⟩ (m_bit (-(nI v))) (-(nI v)) _) (cwV 2 hts (gd_V bw_322 bw_323 bw_437 bw_2 bw_324) rfl rfl rfl (by decide +kernel) ⟨Nat.le_of_ble_eq_true rfl, Nat.le_of_ble_eq_true rfl⟩) (va_recv (ci := 1) (q0 := 0) hK hP rfl rfl) hP hK hD hS hA rfl hl.1 rfl (Nat.le_of_ble_eq_true rfl) dX1_eliminate_266 ⟨Nat.zero_le _, Nat.zero_le _⟩ (fun r2 u3 H locs hu3 hP hD hS => ?_)
                      rw [if_neg (show ¬ h2 = 200 by omega)] at hu3
                      have er : r2 = 1 := congrArg Prod.fst hu3
                      have eu : u3 = (yk (yd S) (yn S + R.length) (q_mm (ym S) R) (h2 + 1) (yg S) (yt S) 0 (yse u1) (ynu u1) (upd f2 h2 (m_bit (-(nI v)))) (upd g2 h2 (-(nI v))) (ygi S)) := congrArg Prod.snd hu3
                      subst er
                      have hP : va_P D vwCl (wM q cA (yk (yd S) (yn S + R.length) (q_mm (ym S) R) (h2 + 1) (yg S) (yt S) 0 (yse u1) (ynu u1) (upd f2 h2 (m_bit (-(nI v)))) (upd g2 h2 (-(nI v))) (ygi S))) H := by rw [eu] at hP; exact hP
                      have hD : va_D (va_A (wM q cA S) s.heap.size) (wM q cA (yk (yd S) (yn S + R.length) (q_mm (ym S) R) (h2 + 1) (yg S) (yt S) 0 (yse u1) (ynu u1) (upd f2 h2 (m_bit (-(nI v)))) (upd g2 h2 (-(nI v))) (ygi S))) := by rw [eu] at hD; exact hD
                      refine lv_istore (lv' := [(9, .int 1), (7, .int (nI R.length)), (5, .int (nI (yn S))), (2, .int (k_both (nI v))), (0, .ref (q 0)), (1, .int (nI v))]) hx hb dX1_eliminate_269 hl (by decide) rfl (fun ls hl => ?_)
                      refine lv_aload_n hx hb dX1_eliminate_271 rfl (lv_at hl 4 rfl) ?_
                      refine va_get (v := .int (nI (yn S + R.length))) hx hb hts hinX1 hown hK hP 0 rfl rfl 1 (by decide) hf33 (fun _ h9 => h9) rfl dX1_eliminate_272 ?_
                      refine lv_iconst (v := 1) hx hb dX1_eliminate_275 (by decide) ?_
                      refine xi_dec hx hb dX1_eliminate_276 ?_
                      refine lv_istore (lv' := [(10, .int (nP (yn S + R.length))), (9, .int 1), (7, .int (nI R.length)), (5, .int (nI (yn S))), (2, .int (k_both (nI v))), (0, .ref (q 0)), (1, .int (nI v))]) hx hb dX1_eliminate_277 hl (by decide) rfl (fun ls hl => ?_)
                      refine wlw (σ := Nat × Nat × (Nat → Int32) × (Nat → Int32)) (fun (x9 : Nat × Nat × (Nat → Int32) × (Nat → Int32)) (H : Heap) (locs : List Loc) ls => match x9 with | (j, n3, f3, g3) => lv_has ls 11 [(10, .int (nP j)), (7, .int (nI R.length)), (2, .int (k_both (nI v))), (0, .ref (q 0))] ∧ va_P D vwCl (wM q cA (yk (yd S) n3 (q_mm (ym S) R) (h2 + 1) (yg S) (yt S) 0 f3 g3 (upd f2 h2 (m_bit (-(nI v)))) (upd g2 h2 (-(nI v))) (ygi S))) H ∧ va_D (va_A (wM q cA S) s.heap.size) (wM q cA (yk (yd S) n3 (q_mm (ym S) R) (h2 + 1) (yg S) (yt S) 0 f3 g3 (upd f2 h2 (m_bit (-(nI v)))) (upd g2 h2 (-(nI v))) (ygi S))) ∧ va_S (va_A (wM q cA S) s.heap.size) s.heap H locs ∧ j ≤ yn S + R.length ∧ n3 ≤ yn S + R.length ∧ cl_of n3 f3 g3 = (q_app (vML S) (ym S) R).take j ++ ((q_app (vML S) (ym S) R).drop j).filter (fun c => (c.1 &&& k_both (nI v)) == 0)) (fun (x9 : Nat × Nat × (Nat → Int32) × (Nat → Int32)) => match x9 with | (j, n3, f3, g3) => j) (yn S + R.length, yn S + R.length, yse u1, ynu u1) ⟨lv_sub hl [0, 2, 4, 5] rfl, hP, hD, hS, (Nat.le_refl _), (Nat.le_refl _), (by rw [← hcl]; exact q_app_z _)⟩ ?_
                      intro x9 H locs ls hI ih279
                      obtain ⟨j, n3, f3, g3⟩ := x9
                      obtain ⟨hl, hP, hD, hS, hj, hn3, hc3⟩ := hI
                      have hl : lv_has ls 11 [(10, .int (nP j)), (7, .int (nI R.length)), (2, .int (k_both (nI v))), (0, .ref (q 0))] := hl
                      refine lv_iload hx hb dX1_eliminate_279 (lv_at hl 0 rfl) ?_
                      refine lv_if_lt (tgt := 308) hx hb dX1_eliminate_281 (by decide) (fun hc281 => ?_) (fun hc281 => ?_)
                      · have hj0 : j = 0 := (nP_lt0 (by omega)).mp hc281
                        refine lv_iload hx hb dX1_eliminate_308 (lv_at hl 1 rfl) ?_
                        have hpo : nI R.length = nI R.length ∧ vML (yk (yd S) n3 (q_mm (ym S) R) (h2 + 1) (yg S) (yt S) 0 f3 g3 (upd f2 h2 (m_bit (-(nI v)))) (upd g2 h2 (-(nI v))) (ygi S)) = q_app ((vML S).filter (fun c => (c.1 &&& k_both (nI v)) == 0)) (ym S) R ∧ ym (yk (yd S) n3 (q_mm (ym S) R) (h2 + 1) (yg S) (yt S) 0 f3 g3 (upd f2 h2 (m_bit (-(nI v)))) (upd g2 h2 (-(nI v))) (ygi S)) = q_mm (ym S) R ∧ vMT (yk (yd S) n3 (q_mm (ym S) R) (h2 + 1) (yg S) (yt S) 0 f3 g3 (upd f2 h2 (m_bit (-(nI v)))) (upd g2 h2 (-(nI v))) (ygi S)) = (vMT S ++ q_pal (k_pos (nI v)) (vML S)) ++ [(k_neg (nI v), k_neg (nI v))] ∧ yd (yk (yd S) n3 (q_mm (ym S) R) (h2 + 1) (yg S) (yt S) 0 f3 g3 (upd f2 h2 (m_bit (-(nI v)))) (upd g2 h2 (-(nI v))) (ygi S)) = yd S ∧ yt (yk (yd S) n3 (q_mm (ym S) R) (h2 + 1) (yg S) (yt S) 0 f3 g3 (upd f2 h2 (m_bit (-(nI v)))) (upd g2 h2 (-(nI v))) (ygi S)) = yt S ∧ yg (yk (yd S) n3 (q_mm (ym S) R) (h2 + 1) (yg S) (yt S) 0 f3 g3 (upd f2 h2 (m_bit (-(nI v)))) (upd g2 h2 (-(nI v))) (ygi S)) = yg S ∧ ygi (yk (yd S) n3 (q_mm (ym S) R) (h2 + 1) (yg S) (yt S) 0 f3 g3 (upd f2 h2 (m_bit (-(nI v)))) (upd g2 h2 (-(nI v))) (ygi S)) = ygi S ∧ yth (yk (yd S) n3 (q_mm (ym S) R) (h2 + 1) (yg S) (yt S) 0 f3 g3 (upd f2 h2 (m_bit (-(nI v)))) (upd g2 h2 (-(nI v))) (ygi S)) = 0 ∧ g_stp S (yk (yd S) n3 (q_mm (ym S) R) (h2 + 1) (yg S) (yt S) 0 f3 g3 (upd f2 h2 (m_bit (-(nI v)))) (upd g2 h2 (-(nI v))) (ygi S)) := by
                          have hfin : cl_of n3 f3 g3 = q_app ((vML S).filter (fun c => (c.1 &&& k_both (nI v)) == 0)) (ym S) R := by
                            rw [hc3, hj0]
                            show (q_app (vML S) (ym S) R).filter (fun c => (c.1 &&& k_both (nI v)) == 0) = _
                            refine app_filter R _ _ (fun y hy mm9 => ?_)
                            have z := mg2_all (L := vML S) (v := nI v) (p := fun y => y &&& k_both (nI v) = 0) (fun c d => res_no) (yn S) 0 [] (fun y hy => nomatch hy) y (by rw [hR]; exact hy)
                            simpa using z
                          refine ⟨rfl, hfin, rfl, ?_, rfl, rfl, rfl, rfl, rfl, (fun z => g_st_push (hgs z) (by rw [m_bit_neg v (by omega) h1]; exact k_ok_neg h1 (by omega)) ⟨v, h1, by omega, Or.inr rfl⟩)⟩
                          show (cl_of (h2 + 1) (upd f2 h2 (m_bit (-(nI v)))) (upd g2 h2 (-(nI v)))).map (fun c => (c.1, m_bit c.2)) = _
                          rw [mk_cl, List.map_append, hT]
                          show _ ++ [(m_bit (-(nI v)), m_bit (-(nI v)))] = _
                          rw [m_bit_neg v (by omega) h1]
                        exact W.iret (v := (nI R.length)) hx hb hr (fun t ht hW => ⟨⟨(nI R.length), (yk (yd S) n3 (q_mm (ym S) R) (h2 + 1) (yg S) (yt S) 0 f3 g3 (upd f2 h2 (m_bit (-(nI v)))) (upd g2 h2 (-(nI v))) (ygi S)), rfl, hpo, by rw [ht]; exact hP, va_K.moved hW.alike hK, hD⟩, hS.F ht⟩) hS.2.2 dX1_eliminate_310
                      · obtain ⟨i, rfl⟩ : ∃ i, j = i + 1 := ⟨j - 1, by have z : ¬ j = 0 := fun z => hc281 ((nP_lt0 (by omega)).mpr z); omega⟩
                        have hl : lv_has ls 11 [(10, .int (nI i)), (7, .int (nI R.length)), (2, .int (k_both (nI v))), (0, .ref (q 0))] := by rw [nP_s] at hl; exact hl
                        have hrd := dn_rd (by rw [app_len, vML_len]; omega) hc3
                        refine lv_aload_n hx hb dX1_eliminate_284 rfl (lv_at hl 3 rfl) ?_
                        refine va_get (v := .ref (q 1)) hx hb hts hinX1 hown hK hP 0 rfl rfl 2 (by decide) hf7 (fun _ h9 => h9) rfl dX1_eliminate_285 ?_
                        refine lv_iload hx hb dX1_eliminate_288 (lv_at hl 0 rfl) ?_
                        refine xa_ld hx hb hK hP 1 0 rfl rfl i (by omega) (by first | decide | assumption) dX1_eliminate_290 ?_
                        refine lv_iload_n hx hb dX1_eliminate_291 rfl (lv_at hl 2 rfl) ?_
                        refine lv_iand hx hb dX1_eliminate_292 ?_
                        refine lv_if_eq (tgt := 302) hx hb dX1_eliminate_293 (by decide) (fun hc293 => ?_) (fun hc293 => ?_)
                        · refine lv_iinc (k := 0) (v := nP i) (lv' := [(10, .int (nP i)), (7, .int (nI R.length)), (2, .int (k_both (nI v))), (0, .ref (q 0))]) hx hb dX1_eliminate_302 hl rfl (ii_p _) (by decide) rfl (fun ls hl => ?_)
                          refine lv_goto (tgt := 279) hx hb dX1_eliminate_305 (by decide) ?_
                          exact ih279 (i, n3, f3, g3) _ _ _ ⟨lv_sub hl [0, 1, 2, 3] rfl, hP, hD, hS, (by omega), (by omega), (by rw [hc3, dn_keep (by rw [app_len, vML_len]; omega) (by rw [← hrd.2.1]; simp [hc293])])⟩ (by show i < i + 1; omega)
                        · refine lv_aload_n hx hb dX1_eliminate_296 rfl (lv_at hl 3 rfl) ?_
                          refine lv_iload hx hb dX1_eliminate_297 (lv_at hl 0 rfl) ?_
                          refine xc_wv (As := [.int (nI i)]) (rest := []) ⟨hx, hb, hml, hown, hts⟩ (kX1_remove l D q cA (yk (yd S) n3 (q_mm (ym S) R) (h2 + 1) (yg S) (yt S) 0 f3 g3 (upd f2 h2 (m_bit (-(nI v)))) (upd g2 h2 (-(nI v))) (ygi S)) ⟨(show n3 ≤ 90 by omega), (show h2 + 1 ≤ 200 by omega), hg100⟩ i (show i < n3 from hrd.1) _) (cwV 1 hts (gd_V bw_325 bw_326 bw_438 bw_2 bw_327) rfl rfl rfl (by decide +kernel) ⟨Nat.le_of_ble_eq_true rfl, Nat.le_of_ble_eq_true rfl⟩) (va_recv (ci := 1) (q0 := 0) hK hP rfl rfl) hP hK hD hS hA rfl hl.1 rfl (Nat.le_of_ble_eq_true rfl) dX1_eliminate_299 ⟨Nat.zero_le _, Nat.zero_le _⟩ (fun u4 H locs hu4 hP hD hS => ?_)
                          have hP : va_P D vwCl (wM q cA (yk (yd S) (n3 - 1) (q_mm (ym S) R) (h2 + 1) (yg S) (yt S) 0 (rmv i (n3 - 1) f3) (rmv i (n3 - 1) g3) (upd f2 h2 (m_bit (-(nI v)))) (upd g2 h2 (-(nI v))) (ygi S))) H := by rw [hu4] at hP; exact hP
                          have hD : va_D (va_A (wM q cA S) s.heap.size) (wM q cA (yk (yd S) (n3 - 1) (q_mm (ym S) R) (h2 + 1) (yg S) (yt S) 0 (rmv i (n3 - 1) f3) (rmv i (n3 - 1) g3) (upd f2 h2 (m_bit (-(nI v)))) (upd g2 h2 (-(nI v))) (ygi S))) := by rw [hu4] at hD; exact hD
                          refine lv_iinc (k := 0) (v := nP i) (lv' := [(10, .int (nP i)), (7, .int (nI R.length)), (2, .int (k_both (nI v))), (0, .ref (q 0))]) hx hb dX1_eliminate_302 hl rfl (ii_p _) (by decide) rfl (fun ls hl => ?_)
                          refine lv_goto (tgt := 279) hx hb dX1_eliminate_305 (by decide) ?_
                          exact ih279 (i, n3 - 1, rmv i (n3 - 1) f3, rmv i (n3 - 1) g3) _ _ _ ⟨lv_sub hl [0, 1, 2, 3] rfl, hP, hD, hS, (by omega), (by omega), (by rw [rmv_cl hrd.1, hc3, dn_drop (by rw [app_len, vML_len]; omega) (by rw [← hrd.2.1]; simp [hc293])])⟩ (by show i < i + 1; omega)
                    · have hlt2 : k2 < yn S := Nat.lt_of_not_le (fun z => hc212 ((nI_leI (by omega) (by omega)).mpr z))
                      have hs2 : q_set (vML S) k2 = yse S k2 := q_set_of hlt2
                      have rk := app_rd hcl (k := k2) (by rw [vML_len]; exact hlt2)
                      rw [hs2] at rk
                      have gk9 := g_cl_at hg (k := k2) (by rw [vML_len]; exact hlt2)
                      rw [hs2] at gk9
                      refine lv_aload_n hx hb dX1_eliminate_215 rfl (lv_at hl 4 rfl) ?_
                      refine va_get (v := .ref (q 1)) hx hb hts hinX1 hown hK hP 0 rfl rfl 2 (by decide) hf7 (fun _ h9 => h9) rfl dX1_eliminate_216 ?_
                      refine lv_iload hx hb dX1_eliminate_219 (lv_at hl 0 rfl) ?_
                      refine xa_ld hx hb hK hP 1 0 rfl rfl k2 (by omega) (by first | decide | assumption) dX1_eliminate_221 ?_
                      refine lv_iload_n hx hb dX1_eliminate_222 rfl (lv_at hl 5 rfl) ?_
                      refine xc_s (As := [.int (nI v)]) (rest := [.int ((yse u1) k2)]) ⟨hx, hb, hml, hown, hts⟩ (kX1_bit l (nI v)) (va_cwS 1 hts (gd_S bw_293 bw_294 bw_2 bw_295) rfl rfl rfl (by decide +kernel) ⟨Nat.le_of_ble_eq_true rfl, Nat.le_of_ble_eq_true rfl⟩) rfl hl.1 rfl (Nat.le_of_ble_eq_true rfl) dX1_eliminate_223 ⟨Nat.zero_le _, Nat.zero_le _⟩ ?_
                      refine lv_iand hx hb dX1_eliminate_226 ?_
                      refine lv_if_eq (tgt := 249) hx hb dX1_eliminate_227 (by decide) (fun hc227 => ?_) (fun hc227 => ?_)
                      · rw [rk.2, m_bit_pos v (by omega) h1] at hc227
                        refine lv_iconst (v := 0) hx hb dX1_eliminate_249 (by decide) ?_
                        refine lv_istore (lv' := [(10, .int 0), (9, .int (nI k2)), (7, .int (nI R.length)), (5, .int (nI (yn S))), (2, .int (k_both (nI v))), (0, .ref (q 0)), (1, .int (nI v))]) hx hb dX1_eliminate_250 hl (by decide) rfl (fun ls hl => ?_)
                        refine lv_iinc (k := 1) (v := nI (k2 + 1)) (lv' := [(9, .int (nI (k2 + 1))), (10, .int 0), (7, .int (nI R.length)), (5, .int (nI (yn S))), (2, .int (k_both (nI v))), (0, .ref (q 0)), (1, .int (nI v))]) hx hb dX1_eliminate_252 hl rfl (ii_1 _) (by decide) rfl (fun ls hl => ?_)
                        refine lv_goto (tgt := 208) hx hb dX1_eliminate_255 (by decide) ?_
                        exact ih208 (k2 + 1, h2, f2, g2) _ _ _ ⟨lv_sub hl [0, 2, 3, 4, 5, 6] rfl, hP, hD, hS, (by omega), (by rw [hT, pal_f hc227]), hgs, (by rw [q_ct_f hlt2 (by simp [hs2, hc227])] at hro; exact hro)⟩ (by show yn S - (k2 + 1) < yn S - k2; omega)
                      · rw [rk.2, m_bit_pos v (by omega) h1] at hc227
                        rw [q_ct_t hlt2 (by simp [hs2, hc227]), q_ct_acc] at hro
                        refine lv_aload_n hx hb dX1_eliminate_230 rfl (lv_at hl 4 rfl) ?_
                        refine lv_aload_n hx hb dX1_eliminate_231 rfl (lv_at hl 4 rfl) ?_
                        refine va_get (v := .ref (q 1)) hx hb hts hinX1 hown hK hP 0 rfl rfl 2 (by decide) hf7 (fun _ h9 => h9) rfl dX1_eliminate_232 ?_
                        refine lv_iload hx hb dX1_eliminate_235 (lv_at hl 0 rfl) ?_
                        refine xa_ld hx hb hK hP 1 0 rfl rfl k2 (by omega) (by first | decide | assumption) dX1_eliminate_237 ?_
                        refine lv_iload_n hx hb dX1_eliminate_238 rfl (lv_at hl 5 rfl) ?_
                        refine xc_wi (As := [.int ((yse u1) k2), .int (nI v)]) (rest := []) ⟨hx, hb, hml, hown, hts⟩ (kX1_push l D q cA (yk (yd S) (yn S + R.length) (q_mm (ym S) R) h2 (yg S) (yt S) 0 (yse u1) (ynu u1) f2 g2 (ygi S)) ⟨hRl, (show h2 ≤ 200 by omega), hg100⟩ ((yse u1) k2) (nI v) _) (cwV 2 hts (gd_V bw_322 bw_323 bw_437 bw_2 bw_324) rfl rfl rfl (by decide +kernel) ⟨Nat.le_of_ble_eq_true rfl, Nat.le_of_ble_eq_true rfl⟩) (va_recv (ci := 1) (q0 := 0) hK hP rfl rfl) hP hK hD hS hA rfl hl.1 rfl (Nat.le_of_ble_eq_true rfl) dX1_eliminate_239 ⟨Nat.zero_le _, Nat.zero_le _⟩ (fun r6 u7 H locs hu7 hP hD hS => ?_)
                        rw [if_neg (show ¬ h2 = 200 by omega), rk.2] at hu7
                        have er : r6 = 1 := congrArg Prod.fst hu7
                        have eu : u7 = (yk (yd S) (yn S + R.length) (q_mm (ym S) R) (h2 + 1) (yg S) (yt S) 0 (yse u1) (ynu u1) (upd f2 h2 (yse S k2)) (upd g2 h2 (nI v)) (ygi S)) := congrArg Prod.snd hu7
                        subst er
                        have hP : va_P D vwCl (wM q cA (yk (yd S) (yn S + R.length) (q_mm (ym S) R) (h2 + 1) (yg S) (yt S) 0 (yse u1) (ynu u1) (upd f2 h2 (yse S k2)) (upd g2 h2 (nI v)) (ygi S))) H := by rw [eu] at hP; exact hP
                        have hD : va_D (va_A (wM q cA S) s.heap.size) (wM q cA (yk (yd S) (yn S + R.length) (q_mm (ym S) R) (h2 + 1) (yg S) (yt S) 0 (yse u1) (ynu u1) (upd f2 h2 (yse S k2)) (upd g2 h2 (nI v)) (ygi S))) := by rw [eu] at hD; exact hD
                        refine lv_if_eq (tgt := 249) hx hb dX1_eliminate_242 (by decide) (fun hc242 => ?_) (fun hc242 => ?_)
                        · exact absurd hc242 (by decide)
                        · refine lv_iconst (v := 1) hx hb dX1_eliminate_245 (by decide) ?_
                          refine lv_goto (tgt := 250) hx hb dX1_eliminate_246 (by decide) ?_
                          refine lv_istore (lv' := [(10, .int 1), (9, .int (nI k2)), (7, .int (nI R.length)), (5, .int (nI (yn S))), (2, .int (k_both (nI v))), (0, .ref (q 0)), (1, .int (nI v))]) hx hb dX1_eliminate_250 hl (by decide) rfl (fun ls hl => ?_)
                          refine lv_iinc (k := 1) (v := nI (k2 + 1)) (lv' := [(9, .int (nI (k2 + 1))), (10, .int 1), (7, .int (nI R.length)), (5, .int (nI (yn S))), (2, .int (k_both (nI v))), (0, .ref (q 0)), (1, .int (nI v))]) hx hb dX1_eliminate_252 hl rfl (ii_1 _) (by decide) rfl (fun ls hl => ?_)
                          refine lv_goto (tgt := 208) hx hb dX1_eliminate_255 (by decide) ?_
                          exact ih208 (k2 + 1, h2 + 1, upd f2 h2 (yse S k2), upd g2 h2 (nI v)) _ _ _ ⟨lv_sub hl [0, 2, 3, 4, 5, 6] rfl, hP, hD, hS, (by omega), (by rw [mk_cl, List.map_append, hT, pal_t hc227, List.append_assoc]; exact congrArg (fun z => vMT S ++ (q_pal (k_pos (nI v)) (cl_of k2 (yse S) (ynu S)) ++ z)) (by show [(yse S k2, m_bit (nI v))] = _; rw [m_bit_pos v (by omega) h1])), (fun z => g_st_push (hgs z) gk9.1 ⟨v, h1, by omega, Or.inl rfl⟩), (by omega)⟩ (by show yn S - (k2 + 1) < yn S - k2; omega)
                  · exact absurd hc177 (by decide)
              · exact absurd ((nI_leI (b := 200) (by omega) (by decide)).mpr (by omega)) hc157
          · exact absurd ((nI_leI (by omega) (by omega)).mpr (by omega)) hc131
        · have hlt : k < yn S := Nat.lt_of_not_le (fun z => hc54 ((nI_leI (by omega) (by omega)).mpr z))
          have hs : q_set (vML S) k = yse S k := q_set_of hlt
          refine lv_aload_n hx hb dX1_eliminate_57 rfl (lv_at hl 4 rfl) ?_
          refine va_get (v := .ref (q 1)) hx hb hts hinX1 hown hK hP 0 rfl rfl 2 (by decide) hf7 (fun _ h9 => h9) rfl dX1_eliminate_58 ?_
          refine lv_iload hx hb dX1_eliminate_61 (lv_at hl 0 rfl) ?_
          refine xa_ld hx hb hK hP 1 0 rfl rfl k (by omega) (by first | decide | assumption) dX1_eliminate_63 ?_
          refine lv_iload_n hx hb dX1_eliminate_64 rfl (lv_at hl 3 rfl) ?_
          refine lv_iand hx hb dX1_eliminate_65 ?_
          refine lv_if_eq (tgt := 75) hx hb dX1_eliminate_66 (by decide) (fun hc66 => ?_) (fun hc66 => ?_)
          · refine lv_iload_n hx hb dX1_eliminate_75 rfl (lv_at hl 2 rfl) ?_
            refine lv_istore_n (lv' := [(3, .int (nI a)), (5, .int (nI k)), (4, .int (nI p9)), (2, .int (k_both (nI v))), (0, .ref (q 0)), (1, .int (nI v))]) hx hb dX1_eliminate_76 rfl hl (by decide) rfl (fun ls hl => ?_)
            refine lv_aload_n hx hb dX1_eliminate_77 rfl (lv_at hl 4 rfl) ?_
            refine va_get (v := .ref (q 1)) hx hb hts hinX1 hown hK hP 0 rfl rfl 2 (by decide) hf7 (fun _ h9 => h9) rfl dX1_eliminate_78 ?_
            refine lv_iload hx hb dX1_eliminate_81 (lv_at hl 1 rfl) ?_
            refine xa_ld hx hb hK hP 1 0 rfl rfl k (by omega) (by first | decide | assumption) dX1_eliminate_83 ?_
            refine lv_iload_n hx hb dX1_eliminate_84 rfl (lv_at hl 5 rfl) ?_
            refine xc_s (As := [.int (nI v)]) (rest := [.int ((yse S) k)]) ⟨hx, hb, hml, hown, hts⟩ (kX1_bit l (nI v)) (va_cwS 1 hts (gd_S bw_293 bw_294 bw_2 bw_295) rfl rfl rfl (by decide +kernel) ⟨Nat.le_of_ble_eq_true rfl, Nat.le_of_ble_eq_true rfl⟩) rfl hl.1 rfl (Nat.le_of_ble_eq_true rfl) dX1_eliminate_85 ⟨Nat.zero_le _, Nat.zero_le _⟩ ?_
            refine lv_iand hx hb dX1_eliminate_88 ?_
            refine lv_if_eq (tgt := 99) hx hb dX1_eliminate_89 (by decide) (fun hc89 => ?_) (fun hc89 => ?_)
            · rw [m_bit_pos v (by omega) h1] at hc89
              refine lv_iload hx hb dX1_eliminate_99 (lv_at hl 2 rfl) ?_
              refine lv_istore (lv' := [(4, .int (nI p9)), (3, .int (nI a)), (5, .int (nI k)), (2, .int (k_both (nI v))), (0, .ref (q 0)), (1, .int (nI v))]) hx hb dX1_eliminate_101 hl (by decide) rfl (fun ls hl => ?_)
              refine lv_iinc (k := 2) (v := nI (k + 1)) (lv' := [(5, .int (nI (k + 1))), (4, .int (nI p9)), (3, .int (nI a)), (2, .int (k_both (nI v))), (0, .ref (q 0)), (1, .int (nI v))]) hx hb dX1_eliminate_103 hl rfl (ii_1 _) (by decide) rfl (fun ls hl => ?_)
              refine lv_goto (tgt := 48) hx hb dX1_eliminate_106 (by decide) ?_
              exact ih48 (k + 1, a, p9) _ ⟨lv_sub hl [0, 1, 2, 3, 4, 5] rfl, (by omega), (by omega), (by omega), (hqa.trans (q_ct_f hlt (by simp [hs, hc66]))), (hqp.trans (q_ct_f hlt (by simp [hs, hc89])))⟩ (by show yn S - (k + 1) < yn S - k; omega)
            · rw [m_bit_pos v (by omega) h1] at hc89
              refine lv_iload hx hb dX1_eliminate_92 (lv_at hl 2 rfl) ?_
              refine lv_iconst (v := 1) hx hb dX1_eliminate_94 (by decide) ?_
              refine xi_inc hx hb dX1_eliminate_95 ?_
              refine lv_goto (tgt := 101) hx hb dX1_eliminate_96 (by decide) ?_
              refine lv_istore (lv' := [(4, .int (nI (p9 + 1))), (3, .int (nI a)), (5, .int (nI k)), (2, .int (k_both (nI v))), (0, .ref (q 0)), (1, .int (nI v))]) hx hb dX1_eliminate_101 hl (by decide) rfl (fun ls hl => ?_)
              refine lv_iinc (k := 2) (v := nI (k + 1)) (lv' := [(5, .int (nI (k + 1))), (4, .int (nI (p9 + 1))), (3, .int (nI a)), (2, .int (k_both (nI v))), (0, .ref (q 0)), (1, .int (nI v))]) hx hb dX1_eliminate_103 hl rfl (ii_1 _) (by decide) rfl (fun ls hl => ?_)
              refine lv_goto (tgt := 48) hx hb dX1_eliminate_106 (by decide) ?_
              exact ih48 (k + 1, a, p9 + 1) _ ⟨lv_sub hl [0, 1, 2, 3, 4, 5] rfl, (by omega), (by omega), (by omega), (hqa.trans (q_ct_f hlt (by simp [hs, hc66]))), (hqp.trans (q_ct_t hlt (by simp [hs, hc89])))⟩ (by show yn S - (k + 1) < yn S - k; omega)
          · refine lv_iload_n hx hb dX1_eliminate_69 rfl (lv_at hl 2 rfl) ?_
            refine lv_iconst (v := 1) hx hb dX1_eliminate_70 (by decide) ?_
            refine xi_inc hx hb dX1_eliminate_71 ?_
            refine lv_goto (tgt := 76) hx hb dX1_eliminate_72 (by decide) ?_
            refine lv_istore_n (lv' := [(3, .int (nI (a + 1))), (5, .int (nI k)), (4, .int (nI p9)), (2, .int (k_both (nI v))), (0, .ref (q 0)), (1, .int (nI v))]) hx hb dX1_eliminate_76 rfl hl (by decide) rfl (fun ls hl => ?_)
            refine lv_aload_n hx hb dX1_eliminate_77 rfl (lv_at hl 4 rfl) ?_
            refine va_get (v := .ref (q 1)) hx hb hts hinX1 hown hK hP 0 rfl rfl 2 (by decide) hf7 (fun _ h9 => h9) rfl dX1_eliminate_78 ?_
            refine lv_iload hx hb dX1_eliminate_81 (lv_at hl 1 rfl) ?_
            refine xa_ld hx hb hK hP 1 0 rfl rfl k (by omega) (by first | decide | assumption) dX1_eliminate_83 ?_
            refine lv_iload_n hx hb dX1_eliminate_84 rfl (lv_at hl 5 rfl) ?_
            refine xc_s (As := [.int (nI v)]) (rest := [.int ((yse S) k)]) ⟨hx, hb, hml, hown, hts⟩ (kX1_bit l (nI v)) (va_cwS 1 hts (gd_S bw_293 bw_294 bw_2 bw_295) rfl rfl rfl (by decide +kernel) ⟨Nat.le_of_ble_eq_true rfl, Nat.le_of_ble_eq_true rfl⟩) rfl hl.1 rfl (Nat.le_of_ble_eq_true rfl) dX1_eliminate_85 ⟨Nat.zero_le _, Nat.zero_le _⟩ ?_
            refine lv_iand hx hb dX1_eliminate_88 ?_
            refine lv_if_eq (tgt := 99) hx hb dX1_eliminate_89 (by decide) (fun hc89 => ?_) (fun hc89 => ?_)
            · rw [m_bit_pos v (by omega) h1] at hc89
              refine lv_iload hx hb dX1_eliminate_99 (lv_at hl 2 rfl) ?_
              refine lv_istore (lv' := [(4, .int (nI p9)), (3, .int (nI (a + 1))), (5, .int (nI k)), (2, .int (k_both (nI v))), (0, .ref (q 0)), (1, .int (nI v))]) hx hb dX1_eliminate_101 hl (by decide) rfl (fun ls hl => ?_)
              refine lv_iinc (k := 2) (v := nI (k + 1)) (lv' := [(5, .int (nI (k + 1))), (4, .int (nI p9)), (3, .int (nI (a + 1))), (2, .int (k_both (nI v))), (0, .ref (q 0)), (1, .int (nI v))]) hx hb dX1_eliminate_103 hl rfl (ii_1 _) (by decide) rfl (fun ls hl => ?_)
              refine lv_goto (tgt := 48) hx hb dX1_eliminate_106 (by decide) ?_
              exact ih48 (k + 1, a + 1, p9) _ ⟨lv_sub hl [0, 1, 2, 3, 4, 5] rfl, (by omega), (by omega), (by omega), (hqa.trans (q_ct_t hlt (by simp [hs, hc66]))), (hqp.trans (q_ct_f hlt (by simp [hs, hc89])))⟩ (by show yn S - (k + 1) < yn S - k; omega)
            · rw [m_bit_pos v (by omega) h1] at hc89
              refine lv_iload hx hb dX1_eliminate_92 (lv_at hl 2 rfl) ?_
              refine lv_iconst (v := 1) hx hb dX1_eliminate_94 (by decide) ?_
              refine xi_inc hx hb dX1_eliminate_95 ?_
              refine lv_goto (tgt := 101) hx hb dX1_eliminate_96 (by decide) ?_
              refine lv_istore (lv' := [(4, .int (nI (p9 + 1))), (3, .int (nI (a + 1))), (5, .int (nI k)), (2, .int (k_both (nI v))), (0, .ref (q 0)), (1, .int (nI v))]) hx hb dX1_eliminate_101 hl (by decide) rfl (fun ls hl => ?_)
              refine lv_iinc (k := 2) (v := nI (k + 1)) (lv' := [(5, .int (nI (k + 1))), (4, .int (nI (p9 + 1))), (3, .int (nI (a + 1))), (2, .int (k_both (nI v))), (0, .ref (q 0)), (1, .int (nI v))]) hx hb dX1_eliminate_103 hl rfl (ii_1 _) (by decide) rfl (fun ls hl => ?_)
              refine lv_goto (tgt := 48) hx hb dX1_eliminate_106 (by decide) ?_
              exact ih48 (k + 1, a + 1, p9 + 1) _ ⟨lv_sub hl [0, 1, 2, 3, 4, 5] rfl, (by omega), (by omega), (by omega), (hqa.trans (q_ct_t hlt (by simp [hs, hc66]))), (hqp.trans (q_ct_t hlt (by simp [hs, hc89])))⟩ (by show yn S - (k + 1) < yn S - k; omega)
      · exact absurd hc24 (by decide)
    · exact absurd (Int32.not_le.mp hc9) (isV_split.mp (isV_nI v (by omega) h1)).2

set_option maxHeartbeats 4000000 in
set_option maxRecDepth 100000 in
theorem kX1_eliminate_no (l : Launch) (D : va_G) (q : Nat → Nat) (cA : ClassId) (S : MS) (hok : okM S) (x : Int32) (h9 : k_isV x = false) (sz : Nat) : xw_Mi l yX1_eliminate wsX1_eliminate ({ frames := 0, cells := 0, slots := 0, locals := 0 }) D vwCl [(cA, .int)] [.ref (q 0), .int x] (wM q cA S) sz (fun (r : Int32) (u : MS) => (r : Int32) = 0 ∧ u = (yk (yd S) (yn S) (ym S) (yh S) (yg S) (yt S) 1 (yse S) (ynu S) (yes S) (yel S) (ygi S))) (wM q cA) := by
  refine Met.ofW (cc := cX1_eliminate) (maxL := 11) (ret := (some .int)) (by decide) rfl ?_
  intro p e s m args below meth c s₁ B hml hv
  obtain ⟨rfl, hsz, hP, hK, hD0⟩ := hv
  subst hsz
  have hD := hD0.self (sz := s.heap.size)
  have hA : ∀ z, s.heap.size ≤ z → va_A (wM q cA S) s.heap.size z := fun z h => Or.inr h
  have hS : va_S (va_A (wM q cA S) s.heap.size) s.heap s.heap [] := va_S.rf
  obtain ⟨hn40, hh200, hg100⟩ := id hok
  have hx := B.exec
  have hb := B.bytes
  have hr := B.returns
  have hts := atoms_spec (ws := wsX1_eliminate) B.pre
  have hown : s.vm.findClass RX1 = some m.cls := findClass_of_methodNamed B.named
  have hlocks := B.notSynchronized
  have hinX1 : ∀ w ∈ u_ws RX1 TX1 12, w ∈ wsX1_eliminate := fun w h => List.mem_cons_of_mem _ (bw_X1 w h)
  have hf25 := hts _ (List.mem_cons_of_mem _ bw_269)
  have hl := lv_entry ([.ref (q 0), .int x]) (n := 11) (Nat.le_of_ble_eq_true rfl)
  rw [lg_entry_eq]
  generalize (lg_sl ([.ref (q 0), .int x]) ++ List.replicate (11 - (lg_sl ([.ref (q 0), .int x])).length) Slot.unset).toArray = ls at hl ⊢
  have hl : lv_has ls 11 [(0, .ref (q 0)), (1, .int x)] := hl
  refine lv_aload_n hx hb dX1_eliminate_0 rfl (lv_at hl 0 rfl) ?_
  refine lv_iload_n hx hb dX1_eliminate_1 rfl (lv_at hl 1 rfl) ?_
  refine lv_iconst (v := 1) hx hb dX1_eliminate_2 (by decide) ?_
  refine lv_icmp_lt (tgt := 12) hx hb dX1_eliminate_3 (by decide) (fun hc3 => ?_) (fun hc3 => ?_)
  · refine lv_iconst (v := 1) hx hb dX1_eliminate_12 (by decide) ?_
    refine lv_goto (tgt := 17) hx hb dX1_eliminate_13 (by decide) ?_
    refine va_put (v := .int 1) (ty := .int) hx hb hts hinX1 tyX1 tyX1_ok nmX1 hown hK hP hD hS 0 rfl rfl 11 (by decide) hf25 (fun _ h9 => h9) rfl (by decide +kernel) rfl rfl (Nat.le_of_ble_eq_true rfl) dX1_eliminate_17 (fun H locs hP hD hS => ?_)
    have hP : va_P D vwCl (wM q cA (yk (yd S) (yn S) (ym S) (yh S) (yg S) (yt S) 1 (yse S) (ynu S) (yes S) (yel S) (ygi S))) H := hP
    have hD : va_D _ (wM q cA (yk (yd S) (yn S) (ym S) (yh S) (yg S) (yt S) 1 (yse S) (ynu S) (yes S) (yel S) (ygi S))) := hD
    refine lv_aload_n hx hb dX1_eliminate_20 rfl (lv_at hl 0 rfl) ?_
    refine va_get (v := .int 1) hx hb hts hinX1 hown hK hP 0 rfl rfl 11 (by decide) hf25 (fun _ h9 => h9) rfl dX1_eliminate_21 ?_
    refine lv_if_eq (tgt := 29) hx hb dX1_eliminate_24 (by decide) (fun hc24 => ?_) (fun hc24 => ?_)
    · exact absurd hc24 (by decide)
    · refine lv_iconst (v := 0) hx hb dX1_eliminate_27 (by decide) ?_
      have hpo : (0 : Int32) = 0 ∧ (yk (yd S) (yn S) (ym S) (yh S) (yg S) (yt S) 1 (yse S) (ynu S) (yes S) (yel S) (ygi S)) = (yk (yd S) (yn S) (ym S) (yh S) (yg S) (yt S) 1 (yse S) (ynu S) (yes S) (yel S) (ygi S)) := ⟨rfl, rfl⟩
      exact W.iret (v := 0) hx hb hr (fun t ht hW => ⟨⟨0, (yk (yd S) (yn S) (ym S) (yh S) (yg S) (yt S) 1 (yse S) (ynu S) (yes S) (yel S) (ygi S)), rfl, hpo, by rw [ht]; exact hP, va_K.moved hW.alike hK, hD⟩, hS.F ht⟩) hS.2.2 dX1_eliminate_28
  · refine lv_iload_n hx hb dX1_eliminate_6 rfl (lv_at hl 1 rfl) ?_
    refine lv_bipush (v := 10) hx hb dX1_eliminate_7 (by decide) ?_
    refine lv_icmp_le (tgt := 16) hx hb dX1_eliminate_9 (by decide) (fun hc9 => ?_) (fun hc9 => ?_)
    · exact absurd h9 (by rw [Bool.not_eq_false, isV_split]; exact ⟨hc3, Int32.not_lt.mpr hc9⟩)
    · refine lv_iconst (v := 1) hx hb dX1_eliminate_12 (by decide) ?_
      refine lv_goto (tgt := 17) hx hb dX1_eliminate_13 (by decide) ?_
      refine va_put (v := .int 1) (ty := .int) hx hb hts hinX1 tyX1 tyX1_ok nmX1 hown hK hP hD hS 0 rfl rfl 11 (by decide) hf25 (fun _ h9 => h9) rfl (by decide +kernel) rfl rfl (Nat.le_of_ble_eq_true rfl) dX1_eliminate_17 (fun H locs hP hD hS => ?_)
      have hP : va_P D vwCl (wM q cA (yk (yd S) (yn S) (ym S) (yh S) (yg S) (yt S) 1 (yse S) (ynu S) (yes S) (yel S) (ygi S))) H := hP
      have hD : va_D _ (wM q cA (yk (yd S) (yn S) (ym S) (yh S) (yg S) (yt S) 1 (yse S) (ynu S) (yes S) (yel S) (ygi S))) := hD
      refine lv_aload_n hx hb dX1_eliminate_20 rfl (lv_at hl 0 rfl) ?_
      refine va_get (v := .int 1) hx hb hts hinX1 hown hK hP 0 rfl rfl 11 (by decide) hf25 (fun _ h9 => h9) rfl dX1_eliminate_21 ?_
      refine lv_if_eq (tgt := 29) hx hb dX1_eliminate_24 (by decide) (fun hc24 => ?_) (fun hc24 => ?_)
      · exact absurd hc24 (by decide)
      · refine lv_iconst (v := 0) hx hb dX1_eliminate_27 (by decide) ?_
        have hpo : (0 : Int32) = 0 ∧ (yk (yd S) (yn S) (ym S) (yh S) (yg S) (yt S) 1 (yse S) (ynu S) (yes S) (yel S) (ygi S)) = (yk (yd S) (yn S) (ym S) (yh S) (yg S) (yt S) 1 (yse S) (ynu S) (yes S) (yel S) (ygi S)) := ⟨rfl, rfl⟩
        exact W.iret (v := 0) hx hb hr (fun t ht hW => ⟨⟨0, (yk (yd S) (yn S) (ym S) (yh S) (yg S) (yt S) 1 (yse S) (ynu S) (yes S) (yel S) (ygi S)), rfl, hpo, by rw [ht]; exact hP, va_K.moved hW.alike hK, hD⟩, hS.F ht⟩) hS.2.2 dX1_eliminate_28
