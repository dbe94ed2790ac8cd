/-! The reference: block and unit. -/
set_option maxHeartbeats 4000000 in
set_option maxRecDepth 100000 in
theorem kX1_block (l : Launch) (D : va_G) (q : Nat → Nat) (cA : ClassId) (S : MS) (hok : okM S) (hg : g_cl (vML S)) (sz : Nat) : xw_Mi l yX1_block wsX1_block ({ frames := 3, cells := 0, slots := 0, locals := 68 }) D vwCl [(cA, .int)] [.ref (q 0)] (wM q cA S) sz (fun (r : Int32) (u : MS) => y_samT S u ∧ g_stp S u ∧ ((r : Int32), vML u, vMT u) = v_turn 3 (vML S) (vMT S)) (wM q cA) := by
  refine Met.ofW (cc := cX1_block) (maxL := 4) (ret := (some .int)) (by decide) rfl ?_
  intro p e s m args below meth c s₁ B hml hv
  obtain ⟨rfl, hsz, hP, hK, hD0⟩ := hv
  subst hsz
  have hD := hD0.self (sz := s.heap.size)
  have hA : ∀ z, s.heap.size ≤ z → va_A (wM q cA S) s.heap.size z := fun z h => Or.inr h
  have hS : va_S (va_A (wM q cA S) s.heap.size) s.heap s.heap [] := va_S.rf
  obtain ⟨hn40, hh200, hg100⟩ := id hok
  have hx := B.exec
  have hb := B.bytes
  have hr := B.returns
  have hts := atoms_spec (ws := wsX1_block) B.pre
  have hown : s.vm.findClass RX1 = some m.cls := findClass_of_methodNamed B.named
  have hlocks := B.notSynchronized
  have hinX1 : ∀ w ∈ u_ws RX1 TX1 12, w ∈ wsX1_block := fun w h => List.mem_cons_of_mem _ (bw_X1 w h)
  have hf7 := hts _ (List.mem_cons_of_mem _ bw_260)
  have hf33 := hts _ (List.mem_cons_of_mem _ bw_259)
  have hl := lv_entry ([.ref (q 0)]) (n := 4) (Nat.le_of_ble_eq_true rfl)
  rw [lg_entry_eq]
  generalize (lg_sl ([.ref (q 0)]) ++ List.replicate (4 - (lg_sl ([.ref (q 0)])).length) Slot.unset).toArray = ls at hl ⊢
  have hl : lv_has ls 4 [(0, .ref (q 0))] := hl
  refine lv_iconst (v := 0) hx hb dX1_block_0 (by decide) ?_
  refine lv_istore_n (lv' := [(1, .int 0), (0, .ref (q 0))]) hx hb dX1_block_1 rfl hl (by decide) rfl (fun ls hl => ?_)
  refine wlr (σ := Nat) (fun (k : Nat) ls => lv_has ls 4 [(1, .int (nI k)), (0, .ref (q 0))] ∧ k ≤ yn S ∧ q_up (fun c => q_bl (vML S) (q_set (vML S) c) != 0) (yn S - 0) 0 = q_up (fun c => q_bl (vML S) (q_set (vML S) c) != 0) (yn S - k) k) (fun (k : Nat) => yn S - k) 0 ⟨lv_sub hl [0, 1] rfl, (by omega), rfl⟩ ?_
  intro k ls hI ih2
  obtain ⟨hl, hk, hq⟩ := hI
  have hl : lv_has ls 4 [(1, .int (nI k)), (0, .ref (q 0))] := hl
  refine lv_iload_n hx hb dX1_block_2 rfl (lv_at hl 0 rfl) ?_
  refine lv_aload_n hx hb dX1_block_3 rfl (lv_at hl 1 rfl) ?_
  refine va_get (v := .int (nI (yn S))) hx hb hts hinX1 hown hK hP 0 rfl rfl 1 (by decide) hf33 (fun _ h9 => h9) rfl dX1_block_4 ?_
  refine lv_icmp_ge (tgt := 83) hx hb dX1_block_7 (by decide) (fun hc7 => ?_) (fun hc7 => ?_)
  · have hge : yn S ≤ k := (nI_leI (by omega) (by omega)).mp hc7
    refine lv_iconst (v := 0) hx hb dX1_block_83 (by decide) ?_
    have hpo : y_samT S S ∧ g_stp S S ∧ ((0 : Int32), vML S, vMT S) = v_turn 3 (vML S) (vMT S) := ⟨(y_same.rf S).T, g_stp.rf S, by rw [vt_3n (by rw [show q_blk (vML S) = q_up (fun c => q_bl (vML S) (q_set (vML S) c) != 0) (yn S - 0) 0 from by unfold q_blk; rw [cl_of_len]; rfl, hq, q_up_end hge])]⟩
    exact W.iret (v := 0) hx hb hr (fun t ht hW => ⟨⟨0, S, rfl, hpo, by rw [ht]; exact hP, va_K.moved hW.alike hK, hD⟩, hS.F ht⟩) hS.2.2 dX1_block_84
  · have hlt : k < yn S := Nat.lt_of_not_le (fun z => hc7 ((nI_leI (by omega) (by omega)).mpr z))
    have hsk : q_set (vML S) k = yse S k := q_set_of hlt
    have gk := g_cl_at hg (k := k) (by rw [vML_len]; exact hlt)
    rw [hsk] at gk
    have e1 : q_blv (vML S) (yse S k) = q_up (fun v => (yse S k &&& k_both (nI v)) != 0 && q_isb (vML S) (yse S k) (yse S k &&& k_both (nI v))) (11 - 1) 1 := rfl
    refine lv_iconst (v := 1) hx hb dX1_block_10 (by decide) ?_
    refine lv_istore_n (lv' := [(2, .int 1), (1, .int (nI k)), (0, .ref (q 0))]) hx hb dX1_block_11 rfl hl (by decide) rfl (fun ls hl => ?_)
    refine wlr (σ := Nat) (fun (v : Nat) ls => lv_has ls 4 [(2, .int (nI v)), (1, .int (nI k)), (0, .ref (q 0))] ∧ v ≤ 11 ∧ q_up (fun v => (yse S k &&& k_both (nI v)) != 0 && q_isb (vML S) (yse S k) (yse S k &&& k_both (nI v))) (11 - 1) 1 = q_up (fun v => (yse S k &&& k_both (nI v)) != 0 && q_isb (vML S) (yse S k) (yse S k &&& k_both (nI v))) (11 - v) v ∧ 1 ≤ v) (fun (v : Nat) => 11 - v) 1 ⟨lv_sub hl [0, 1, 2] rfl, (by omega), rfl, Nat.le_refl _⟩ ?_
    intro v ls hI ih12
    obtain ⟨hl, hk2, hq2, h02⟩ := hI
    have hl : lv_has ls 4 [(2, .int (nI v)), (1, .int (nI k)), (0, .ref (q 0))] := hl
    refine lv_iload_n hx hb dX1_block_12 rfl (lv_at hl 0 rfl) ?_
    refine lv_bipush (v := 10) hx hb dX1_block_13 (by decide) ?_
    refine lv_icmp_gt (tgt := 77) hx hb dX1_block_15 (by decide) (fun hc15 => ?_) (fun hc15 => ?_)
    · have hge2 : 11 ≤ v := (nI_ltI (a := 10) (by decide) (by omega)).mp hc15
      have hn1 : q_bl (vML S) (yse S k) = 0 := bl_iff.mpr (by rw [e1, hq2, q_up_end hge2])
      refine lv_iinc (k := 1) (v := nI (k + 1)) (lv' := [(1, .int (nI (k + 1))), (2, .int (nI v)), (0, .ref (q 0))]) hx hb dX1_block_77 hl rfl (ii_1 _) (by decide) rfl (fun ls hl => ?_)
      refine lv_goto (tgt := 2) hx hb dX1_block_80 (by decide) ?_
      exact ih2 (k + 1) _ ⟨lv_sub hl [0, 2] rfl, (by omega), hq.trans (q_up_f hlt (by simp [hsk, hn1]))⟩ (by omega)
    · have hlt2 : v < 11 := Nat.lt_of_not_le (fun z => hc15 ((nI_ltI (a := 10) (by decide) (by omega)).mpr z))
      refine lv_aload_n hx hb dX1_block_18 rfl (lv_at hl 2 rfl) ?_
      refine lv_iload_n hx hb dX1_block_19 rfl (lv_at hl 1 rfl) ?_
      refine lv_iload_n hx hb dX1_block_20 rfl (lv_at hl 0 rfl) ?_
      refine xc_rv (As := [.int (nI k), .int (nI v)]) (rest := []) ⟨hx, hb, hml, hown, hts⟩ (kX1_isBlocked l D q cA S hok k v hlt h02 (by omega) hg) (cwV 2 hts (gd_V bw_343 bw_344 bw_443 bw_2 bw_345) rfl rfl rfl (by decide +kernel) ⟨Nat.le_of_ble_eq_true rfl, Nat.le_of_ble_eq_true rfl⟩) (va_recv (ci := 1) (q0 := 0) hK hP rfl rfl) hP hK rfl hl.1 rfl (Nat.le_of_ble_eq_true rfl) dX1_block_21 ⟨Nat.zero_le _, Nat.zero_le _⟩ ?_
      refine lv_if_eq (tgt := 71) hx hb dX1_block_24 (by decide) (fun hc24 => ?_) (fun hc24 => ?_)
      · have hc24 := kb_0.mp hc24
        refine lv_iinc (k := 0) (v := nI (v + 1)) (lv' := [(2, .int (nI (v + 1))), (1, .int (nI k)), (0, .ref (q 0))]) hx hb dX1_block_71 hl rfl (ii_1 _) (by decide) rfl (fun ls hl => ?_)
        refine lv_goto (tgt := 12) hx hb dX1_block_74 (by decide) ?_
        exact ih12 (v + 1) _ ⟨lv_sub hl [0, 1, 2] rfl, (by omega), hq2.trans (q_up_f hlt2 hc24), (by omega)⟩ (by omega)
      · have hc24 := kb_n0.mp hc24
        have hmine : yse S k &&& k_both (nI v) ≠ 0 := by have z := (Bool.and_eq_true_iff.mp hc24).1; simpa using z
        have hbl : q_bl (vML S) (yse S k) = yse S k &&& k_both (nI v) := by unfold q_bl; rw [e1, hq2, q_up_t hlt2 hc24]
        have hblk : q_blk (vML S) = some k := by rw [show q_blk (vML S) = q_up (fun c => q_bl (vML S) (q_set (vML S) c) != 0) (yn S - 0) 0 from by unfold q_blk; rw [cl_of_len]; rfl, hq, q_up_t hlt (by rw [hsk, hbl]; simpa using hmine)]
        refine lv_aload_n hx hb dX1_block_27 rfl (lv_at hl 2 rfl) ?_
        refine va_get (v := .ref (q 1)) hx hb hts hinX1 hown hK hP 0 rfl rfl 2 (by decide) hf7 (fun _ h9 => h9) rfl dX1_block_28 ?_
        refine lv_iload_n hx hb dX1_block_31 rfl (lv_at hl 1 rfl) ?_
        refine xa_ld hx hb hK hP 1 0 rfl rfl k (by omega) (by first | decide | assumption) dX1_block_32 ?_
        refine lv_iload_n hx hb dX1_block_33 rfl (lv_at hl 0 rfl) ?_
        refine xc_s (As := [.int (nI v)]) (rest := [.int ((yse S) k)]) ⟨hx, hb, hml, hown, hts⟩ (kX1_bit l (nI v)) (va_cwS 1 hts (gd_S bw_293 bw_294 bw_2 bw_295) rfl rfl rfl (by decide +kernel) ⟨Nat.le_of_ble_eq_true rfl, Nat.le_of_ble_eq_true rfl⟩) rfl hl.1 rfl (Nat.le_of_ble_eq_true rfl) dX1_block_34 ⟨Nat.zero_le _, Nat.zero_le _⟩ ?_
        refine lv_iand hx hb dX1_block_37 ?_
        refine lv_if_eq (tgt := 45) hx hb dX1_block_38 (by decide) (fun hc38 => ?_) (fun hc38 => ?_)
        · have hlb : m_bit (-(nI v)) = yse S k &&& k_both (nI v) := by
            have z := mine_lit gk.2 h02 (by omega) hmine
            rw [if_pos hc38] at z
            exact z
          refine lv_iload_n hx hb dX1_block_45 rfl (lv_at hl 0 rfl) ?_
          refine lv_ineg hx hb dX1_block_46 ?_
          refine lv_istore_n (lv' := [(3, .int (-(nI v))), (2, .int (nI v)), (1, .int (nI k)), (0, .ref (q 0))]) hx hb dX1_block_47 rfl hl (by decide) rfl (fun ls hl => ?_)
          refine lv_aload_n hx hb dX1_block_48 rfl (lv_at hl 3 rfl) ?_
          refine lv_aload_n hx hb dX1_block_49 rfl (lv_at hl 3 rfl) ?_
          refine va_get (v := .ref (q 1)) hx hb hts hinX1 hown hK hP 0 rfl rfl 2 (by decide) hf7 (fun _ h9 => h9) rfl dX1_block_50 ?_
          refine lv_iload_n hx hb dX1_block_53 rfl (lv_at hl 2 rfl) ?_
          refine xa_ld hx hb hK hP 1 0 rfl rfl k (by omega) (by first | decide | assumption) dX1_block_54 ?_
          refine lv_iload_n hx hb dX1_block_55 rfl (lv_at hl 0 rfl) ?_
          refine xc_wi (As := [.int ((yse S) k), .int (-(nI v))]) (rest := []) ⟨hx, hb, hml, hown, hts⟩ (kX1_push l D q cA S hok ((yse S) k) (-(nI v)) _) (cwV 2 hts (gd_V bw_322 bw_323 bw_437 bw_2 bw_324) rfl rfl rfl (by decide +kernel) ⟨Nat.le_of_ble_eq_true rfl, Nat.le_of_ble_eq_true rfl⟩) (va_recv (ci := 1) (q0 := 0) hK hP rfl rfl) hP hK hD hS hA rfl hl.1 rfl (Nat.le_of_ble_eq_true rfl) dX1_block_56 ⟨Nat.zero_le _, Nat.zero_le _⟩ (fun r2 u1 H locs hu1 hP hD hS => ?_)
          refine lv_if_ne (tgt := 64) hx hb dX1_block_59 (by decide) (fun hc59 => ?_) (fun hc59 => ?_)
          · have hT : ¬ yh S = 200 := fun z => hc59 (by rw [if_pos z] at hu1; exact congrArg Prod.fst hu1)
            rw [if_neg hT] at hu1
            have hu1 : u1 = (yk (yd S) (yn S) (ym S) (yh S + 1) (yg S) (yt S) (yth S) (yse S) (ynu S) (upd (yes S) (yh S) (yse S k)) (upd (yel S) (yh S) (-(nI v))) (ygi S)) := congrArg Prod.snd hu1
            have hP : va_P D vwCl (wM q cA (yk (yd S) (yn S) (ym S) (yh S + 1) (yg S) (yt S) (yth S) (yse S) (ynu S) (upd (yes S) (yh S) (yse S k)) (upd (yel S) (yh S) (-(nI v))) (ygi S))) H := by rw [hu1] at hP; exact hP
            have hD : va_D (va_A (wM q cA S) s.heap.size) (wM q cA (yk (yd S) (yn S) (ym S) (yh S + 1) (yg S) (yt S) (yth S) (yse S) (ynu S) (upd (yes S) (yh S) (yse S k)) (upd (yel S) (yh S) (-(nI v))) (ygi S))) := by rw [hu1] at hD; exact hD
            refine lv_aload_n hx hb dX1_block_64 rfl (lv_at hl 3 rfl) ?_
            refine lv_iload_n hx hb dX1_block_65 rfl (lv_at hl 2 rfl) ?_
            refine xc_wv (As := [.int (nI k)]) (rest := []) ⟨hx, hb, hml, hown, hts⟩ (kX1_remove l D q cA (yk (yd S) (yn S) (ym S) (yh S + 1) (yg S) (yt S) (yth S) (yse S) (ynu S) (upd (yes S) (yh S) (yse S k)) (upd (yel S) (yh S) (-(nI v))) (ygi S)) ⟨hn40, (show yh S + 1 ≤ 200 by omega), hg100⟩ k (show k < yn S from hlt) _) (cwV 1 hts (gd_V bw_325 bw_326 bw_438 bw_2 bw_327) rfl rfl rfl (by decide +kernel) ⟨Nat.le_of_ble_eq_true rfl, Nat.le_of_ble_eq_true rfl⟩) (va_recv (ci := 1) (q0 := 0) hK hP rfl rfl) hP hK hD hS hA rfl hl.1 rfl (Nat.le_of_ble_eq_true rfl) dX1_block_66 ⟨Nat.zero_le _, Nat.zero_le _⟩ (fun u3 H locs hu3 hP hD hS => ?_)
            refine lv_iconst (v := 1) hx hb dX1_block_69 (by decide) ?_
            have hpo : y_samT S u3 ∧ g_stp S u3 ∧ ((1 : Int32), vML u3, vMT u3) = v_turn 3 (vML S) (vMT S) := ⟨by rw [hu3]; rfl, (fun hs9 => by rw [hu3]; exact g_st_push hs9 gk.1 ⟨v, h02, by omega, Or.inr rfl⟩), by
              rw [vt_3s hblk (by rw [vMT_len]; omega), hsk, hu3, hbl, ← hlb]
              exact congrArg (Prod.mk (1 : Int32)) (by rw [← vMT_push, ← rmv_cl hlt (yse S) (ynu S)])⟩
            exact W.iret (v := 1) hx hb hr (fun t ht hW => ⟨⟨1, u3, rfl, hpo, by rw [ht]; exact hP, va_K.moved hW.alike hK, hD⟩, hS.F ht⟩) hS.2.2 dX1_block_70
          · have hT : yh S = 200 := Classical.byContradiction fun z => by
              rw [if_neg z] at hu1
              have z2 : r2 = 1 := congrArg Prod.fst hu1
              rw [hc59] at z2
              exact absurd z2 (by decide)
            rw [if_pos hT] at hu1
            have hu1 : u1 = S := congrArg Prod.snd hu1
            have hP : va_P D vwCl (wM q cA S) H := by rw [hu1] at hP; exact hP
            have hD : va_D (va_A (wM q cA S) s.heap.size) (wM q cA S) := by rw [hu1] at hD; exact hD
            refine lv_iconst (v := (-1)) hx hb dX1_block_62 (by decide) ?_
            have hpo : y_samT S S ∧ g_stp S S ∧ (((-1) : Int32), vML S, vMT S) = v_turn 3 (vML S) (vMT S) := ⟨(y_same.rf S).T, g_stp.rf S, by rw [vt_3f hblk (by rw [vMT_len]; omega)]⟩
            exact W.iret (v := (-1)) hx hb hr (fun t ht hW => ⟨⟨(-1), S, rfl, hpo, by rw [ht]; exact hP, va_K.moved hW.alike hK, hD⟩, hS.F ht⟩) hS.2.2 dX1_block_63
        · have hlb : m_bit (nI v) = yse S k &&& k_both (nI v) := by
            have z := mine_lit gk.2 h02 (by omega) hmine
            rw [if_neg hc38] at z
            exact z
          refine lv_iload_n hx hb dX1_block_41 rfl (lv_at hl 0 rfl) ?_
          refine lv_goto (tgt := 47) hx hb dX1_block_42 (by decide) ?_
          refine lv_istore_n (lv' := [(3, .int (nI v)), (2, .int (nI v)), (1, .int (nI k)), (0, .ref (q 0))]) hx hb dX1_block_47 rfl hl (by decide) rfl (fun ls hl => ?_)
          refine lv_aload_n hx hb dX1_block_48 rfl (lv_at hl 3 rfl) ?_
          refine lv_aload_n hx hb dX1_block_49 rfl (lv_at hl 3 rfl) ?_
          refine va_get (v := .ref (q 1)) hx hb hts hinX1 hown hK hP 0 rfl rfl 2 (by decide) hf7 (fun _ h9 => h9) rfl dX1_block_50 ?_
          refine lv_iload_n hx hb dX1_block_53 rfl (lv_at hl 2 rfl) ?_
          refine xa_ld hx hb hK hP 1 0 rfl rfl k (by omega) (by first | decide | assumption) dX1_block_54 ?_
          refine lv_iload_n hx hb dX1_block_55 rfl (lv_at hl 0 rfl) ?_
          refine xc_wi (As := [.int ((yse S) k), .int (nI v)]) (rest := []) ⟨hx, hb, hml, hown, hts⟩ (kX1_push l D q cA S hok ((yse S) k) (nI v) _) (cwV 2 hts (gd_V bw_322 bw_323 bw_437 bw_2 bw_324) rfl rfl rfl (by decide +kernel) ⟨Nat.le_of_ble_eq_true rfl, Nat.le_of_ble_eq_true rfl⟩) (va_recv (ci := 1) (q0 := 0) hK hP rfl rfl) hP hK hD hS hA rfl hl.1 rfl (Nat.le_of_ble_eq_true rfl) dX1_block_56 ⟨Nat.zero_le _, Nat.zero_le _⟩ (fun r6 u5 H locs hu5 hP hD hS => ?_)
          refine lv_if_ne (tgt := 64) hx hb dX1_block_59 (by decide) (fun hc59 => ?_) (fun hc59 => ?_)
          · have hT : ¬ yh S = 200 := fun z => hc59 (by rw [if_pos z] at hu5; exact congrArg Prod.fst hu5)
            rw [if_neg hT] at hu5
            have hu5 : u5 = (yk (yd S) (yn S) (ym S) (yh S + 1) (yg S) (yt S) (yth S) (yse S) (ynu S) (upd (yes S) (yh S) (yse S k)) (upd (yel S) (yh S) (nI v)) (ygi S)) := congrArg Prod.snd hu5
            have hP : va_P D vwCl (wM q cA (yk (yd S) (yn S) (ym S) (yh S + 1) (yg S) (yt S) (yth S) (yse S) (ynu S) (upd (yes S) (yh S) (yse S k)) (upd (yel S) (yh S) (nI v)) (ygi S))) H := by rw [hu5] at hP; exact hP
            have hD : va_D (va_A (wM q cA S) s.heap.size) (wM q cA (yk (yd S) (yn S) (ym S) (yh S + 1) (yg S) (yt S) (yth S) (yse S) (ynu S) (upd (yes S) (yh S) (yse S k)) (upd (yel S) (yh S) (nI v)) (ygi S))) := by rw [hu5] at hD; exact hD
            refine lv_aload_n hx hb dX1_block_64 rfl (lv_at hl 3 rfl) ?_
            refine lv_iload_n hx hb dX1_block_65 rfl (lv_at hl 2 rfl) ?_
            refine xc_wv (As := [.int (nI k)]) (rest := []) ⟨hx, hb, hml, hown, hts⟩ (kX1_remove l D q cA (yk (yd S) (yn S) (ym S) (yh S + 1) (yg S) (yt S) (yth S) (yse S) (ynu S) (upd (yes S) (yh S) (yse S k)) (upd (yel S) (yh S) (nI v)) (ygi S)) ⟨hn40, (show yh S + 1 ≤ 200 by omega), hg100⟩ k (show k < yn S from hlt) _) (cwV 1 hts (gd_V bw_325 bw_326 bw_438 bw_2 bw_327) rfl rfl rfl (by decide +kernel) ⟨Nat.le_of_ble_eq_true rfl, Nat.le_of_ble_eq_true rfl⟩) (va_recv (ci := 1) (q0 := 0) hK hP rfl rfl) hP hK hD hS hA rfl hl.1 rfl (Nat.le_of_ble_eq_true rfl) dX1_block_66 ⟨Nat.zero_le _, Nat.zero_le _⟩ (fun u7 H locs hu7 hP hD hS => ?_)
            refine lv_iconst (v := 1) hx hb dX1_block_69 (by decide) ?_
            have hpo : y_samT S u7 ∧ g_stp S u7 ∧ ((1 : Int32), vML u7, vMT u7) = v_turn 3 (vML S) (vMT S) := ⟨by rw [hu7]; rfl, (fun hs9 => by rw [hu7]; exact g_st_push hs9 gk.1 ⟨v, h02, by omega, Or.inl rfl⟩), by
              rw [vt_3s hblk (by rw [vMT_len]; omega), hsk, hu7, hbl, ← hlb]
              exact congrArg (Prod.mk (1 : Int32)) (by rw [← vMT_push, ← rmv_cl hlt (yse S) (ynu S)])⟩
            exact W.iret (v := 1) hx hb hr (fun t ht hW => ⟨⟨1, u7, rfl, hpo, by rw [ht]; exact hP, va_K.moved hW.alike hK, hD⟩, hS.F ht⟩) hS.2.2 dX1_block_70
          · have hT : yh S = 200 := Classical.byContradiction fun z => by
              rw [if_neg z] at hu5
              have z2 : r6 = 1 := congrArg Prod.fst hu5
              rw [hc59] at z2
              exact absurd z2 (by decide)
            rw [if_pos hT] at hu5
            have hu5 : u5 = S := congrArg Prod.snd hu5
            have hP : va_P D vwCl (wM q cA S) H := by rw [hu5] at hP; exact hP
            have hD : va_D (va_A (wM q cA S) s.heap.size) (wM q cA S) := by rw [hu5] at hD; exact hD
            refine lv_iconst (v := (-1)) hx hb dX1_block_62 (by decide) ?_
            have hpo : y_samT S S ∧ g_stp S S ∧ (((-1) : Int32), vML S, vMT S) = v_turn 3 (vML S) (vMT S) := ⟨(y_same.rf S).T, g_stp.rf S, by rw [vt_3f hblk (by rw [vMT_len]; omega)]⟩
            exact W.iret (v := (-1)) hx hb hr (fun t ht hW => ⟨⟨(-1), S, rfl, hpo, by rw [ht]; exact hP, va_K.moved hW.alike hK, hD⟩, hS.F ht⟩) hS.2.2 dX1_block_63

set_option maxHeartbeats 4000000 in
set_option maxRecDepth 100000 in
theorem kX1_unit (l : Launch) (D : va_G) (q : Nat → Nat) (cA : ClassId) (S : MS) (hok : okM S) (hg : g_cl (vML S)) (hn9 : yn S ≤ 40) (sz : Nat) : xw_Mi l yX1_unit wsX1_unit ({ frames := 2, cells := 0, slots := 0, locals := 46 }) D vwCl [(cA, .int)] [.ref (q 0)] (wM q cA S) sz (fun (r : Int32) (u : MS) => y_samT S u ∧ g_stp S u ∧ ((r : Int32), vML u, vMT u) = v_turn 0 (vML S) (vMT S)) (wM q cA) := by
  refine Met.ofW (cc := cX1_unit) (maxL := 4) (ret := (some .int)) (by decide) rfl ?_
  intro p e s m args below meth c s₁ B hml hv
  obtain ⟨rfl, hsz, hP, hK, hD0⟩ := hv
  subst hsz
  have hD := hD0.self (sz := s.heap.size)
  have hA : ∀ z, s.heap.size ≤ z → va_A (wM q cA S) s.heap.size z := fun z h => Or.inr h
  have hS : va_S (va_A (wM q cA S) s.heap.size) s.heap s.heap [] := va_S.rf
  obtain ⟨hn40, hh200, hg100⟩ := id hok
  have hx := B.exec
  have hb := B.bytes
  have hr := B.returns
  have hts := atoms_spec (ws := wsX1_unit) B.pre
  have hown : s.vm.findClass RX1 = some m.cls := findClass_of_methodNamed B.named
  have hlocks := B.notSynchronized
  have hinX1 : ∀ w ∈ u_ws RX1 TX1 12, w ∈ wsX1_unit := fun w h => List.mem_cons_of_mem _ (bw_X1 w h)
  have hf7 := hts _ (List.mem_cons_of_mem _ bw_260)
  have hf33 := hts _ (List.mem_cons_of_mem _ bw_259)
  have hl := lv_entry ([.ref (q 0)]) (n := 4) (Nat.le_of_ble_eq_true rfl)
  rw [lg_entry_eq]
  generalize (lg_sl ([.ref (q 0)]) ++ List.replicate (4 - (lg_sl ([.ref (q 0)])).length) Slot.unset).toArray = ls at hl ⊢
  have hl : lv_has ls 4 [(0, .ref (q 0))] := hl
  refine lv_iconst (v := 0) hx hb dX1_unit_0 (by decide) ?_
  refine lv_istore_n (lv' := [(1, .int 0), (0, .ref (q 0))]) hx hb dX1_unit_1 rfl hl (by decide) rfl (fun ls hl => ?_)
  refine wlr (σ := Nat) (fun (k : Nat) ls => lv_has ls 4 [(1, .int (nI k)), (0, .ref (q 0))] ∧ k ≤ yn S ∧ q_up (fun k => k_sing (q_set (vML S) k)) (yn S - 0) 0 = q_up (fun k => k_sing (q_set (vML S) k)) (yn S - k) k) (fun (k : Nat) => yn S - k) 0 ⟨lv_sub hl [0, 1] rfl, (by omega), rfl⟩ ?_
  intro k ls hI ih2
  obtain ⟨hl, hk, hq⟩ := hI
  have hl : lv_has ls 4 [(1, .int (nI k)), (0, .ref (q 0))] := hl
  refine lv_iload_n hx hb dX1_unit_2 rfl (lv_at hl 0 rfl) ?_
  refine lv_aload_n hx hb dX1_unit_3 rfl (lv_at hl 1 rfl) ?_
  refine va_get (v := .int (nI (yn S))) hx hb hts hinX1 hown hK hP 0 rfl rfl 1 (by decide) hf33 (fun _ h9 => h9) rfl dX1_unit_4 ?_
  refine lv_icmp_ge (tgt := 29) hx hb dX1_unit_7 (by decide) (fun hc7 => ?_) (fun hc7 => ?_)
  · have hge : yn S ≤ k := (nI_leI (by omega) (by omega)).mp hc7
    refine lv_iload_n hx hb dX1_unit_29 rfl (lv_at hl 0 rfl) ?_
    refine lv_aload_n hx hb dX1_unit_30 rfl (lv_at hl 1 rfl) ?_
    refine va_get (v := .int (nI (yn S))) hx hb hts hinX1 hown hK hP 0 rfl rfl 1 (by decide) hf33 (fun _ h9 => h9) rfl dX1_unit_31 ?_
    refine lv_icmp_ne (tgt := 39) hx hb dX1_unit_34 (by decide) (fun hc34 => ?_) (fun hc34 => ?_)
    · exact absurd (by rw [show k = yn S by omega]) hc34
    · refine lv_iconst (v := 0) hx hb dX1_unit_37 (by decide) ?_
      have hpo : y_samT S S ∧ g_stp S S ∧ ((0 : Int32), vML S, vMT S) = v_turn 0 (vML S) (vMT S) := ⟨(y_same.rf S).T, g_stp.rf S, by rw [vt_0n (by rw [show p_unit (vML S) = q_up (fun k => k_sing (q_set (vML S) k)) (yn S - 0) 0 from by unfold p_unit; rw [cl_of_len]; rfl, hq, q_up_end hge])]⟩
      exact W.iret (v := 0) hx hb hr (fun t ht hW => ⟨⟨0, S, rfl, hpo, by rw [ht]; exact hP, va_K.moved hW.alike hK, hD⟩, hS.F ht⟩) hS.2.2 dX1_unit_38
  · have hlt : k < yn S := Nat.lt_of_not_le (fun z => hc7 ((nI_leI (by omega) (by omega)).mpr z))
    have hs : q_set (vML S) k = yse S k := q_set_of hlt
    have gk := g_cl_at hg (k := k) (by rw [vML_len]; exact hlt)
    rw [hs] at gk
    refine lv_aload_n hx hb dX1_unit_10 rfl (lv_at hl 1 rfl) ?_
    refine va_get (v := .ref (q 1)) hx hb hts hinX1 hown hK hP 0 rfl rfl 2 (by decide) hf7 (fun _ h9 => h9) rfl dX1_unit_11 ?_
    refine lv_iload_n hx hb dX1_unit_14 rfl (lv_at hl 0 rfl) ?_
    refine xa_ld hx hb hK hP 1 0 rfl rfl k (by omega) (by first | decide | assumption) dX1_unit_15 ?_
    refine xc_s (As := [.int ((yse S) k)]) (rest := []) ⟨hx, hb, hml, hown, hts⟩ (kX1_ones l ((yse S) k)) (va_cwS 1 hts (gd_S bw_296 bw_297 bw_2 bw_298) rfl rfl rfl (by decide +kernel) ⟨Nat.le_of_ble_eq_true rfl, Nat.le_of_ble_eq_true rfl⟩) rfl hl.1 rfl (Nat.le_of_ble_eq_true rfl) dX1_unit_16 ⟨Nat.zero_le _, Nat.zero_le _⟩ ?_
    refine lv_iconst (v := 1) hx hb dX1_unit_19 (by decide) ?_
    refine lv_icmp_eq (tgt := 29) hx hb dX1_unit_20 (by decide) (fun hc20 => ?_) (fun hc20 => ?_)
    · have hsg : k_sing (yse S k) = true := by rw [sing_pc gk.1]; simp [hc20]
      have hun : p_unit (vML S) = some k := by rw [show p_unit (vML S) = q_up (fun k => k_sing (q_set (vML S) k)) (yn S - 0) 0 from by unfold p_unit; rw [cl_of_len]; rfl, hq, q_up_t hlt (by simp [hs, hsg])]
      obtain ⟨lt9, hlt9⟩ := isl_of gk.1 hsg
      have hmb := isl_bit hlt9
      have hmc := isl_con hlt9
      refine lv_iload_n hx hb dX1_unit_29 rfl (lv_at hl 0 rfl) ?_
      refine lv_aload_n hx hb dX1_unit_30 rfl (lv_at hl 1 rfl) ?_
      refine va_get (v := .int (nI (yn S))) hx hb hts hinX1 hown hK hP 0 rfl rfl 1 (by decide) hf33 (fun _ h9 => h9) rfl dX1_unit_31 ?_
      refine lv_icmp_ne (tgt := 39) hx hb dX1_unit_34 (by decide) (fun hc34 => ?_) (fun hc34 => ?_)
      · refine lv_aload_n hx hb dX1_unit_39 rfl (lv_at hl 1 rfl) ?_
        refine va_get (v := .ref (q 1)) hx hb hts hinX1 hown hK hP 0 rfl rfl 2 (by decide) hf7 (fun _ h9 => h9) rfl dX1_unit_40 ?_
        refine lv_iload_n hx hb dX1_unit_43 rfl (lv_at hl 0 rfl) ?_
        refine xa_ld hx hb hK hP 1 0 rfl rfl k (by omega) (by first | decide | assumption) dX1_unit_44 ?_
        refine xc_s (As := [.int ((yse S) k)]) (rest := []) ⟨hx, hb, hml, hown, hts⟩ (kX1_only l ((yse S) k) lt9 hlt9) (va_cwS 1 hts (gd_S bw_319 bw_320 bw_2 bw_321) rfl rfl rfl (by decide +kernel) ⟨Nat.le_of_ble_eq_true rfl, Nat.le_of_ble_eq_true rfl⟩) rfl hl.1 rfl (Nat.le_of_ble_eq_true rfl) dX1_unit_45 ⟨Nat.zero_le _, Nat.zero_le _⟩ ?_
        refine lv_istore_n (lv' := [(2, .int lt9), (1, .int (nI k)), (0, .ref (q 0))]) hx hb dX1_unit_48 rfl hl (by decide) rfl (fun ls hl => ?_)
        refine lv_aload_n hx hb dX1_unit_49 rfl (lv_at hl 2 rfl) ?_
        refine lv_aload_n hx hb dX1_unit_50 rfl (lv_at hl 2 rfl) ?_
        refine va_get (v := .ref (q 1)) hx hb hts hinX1 hown hK hP 0 rfl rfl 2 (by decide) hf7 (fun _ h9 => h9) rfl dX1_unit_51 ?_
        refine lv_iload_n hx hb dX1_unit_54 rfl (lv_at hl 1 rfl) ?_
        refine xa_ld hx hb hK hP 1 0 rfl rfl k (by omega) (by first | decide | assumption) dX1_unit_55 ?_
        refine lv_iload_n hx hb dX1_unit_56 rfl (lv_at hl 0 rfl) ?_
        refine xc_wi (As := [.int ((yse S) k), .int lt9]) (rest := []) ⟨hx, hb, hml, hown, hts⟩ (kX1_push l D q cA S hok ((yse S) k) lt9 _) (cwV 2 hts (gd_V bw_322 bw_323 bw_437 bw_2 bw_324) rfl rfl rfl (by decide +kernel) ⟨Nat.le_of_ble_eq_true rfl, Nat.le_of_ble_eq_true rfl⟩) (va_recv (ci := 1) (q0 := 0) hK hP rfl rfl) hP hK hD hS hA rfl hl.1 rfl (Nat.le_of_ble_eq_true rfl) dX1_unit_57 ⟨Nat.zero_le _, Nat.zero_le _⟩ (fun r2 u1 H locs hu1 hP hD hS => ?_)
        refine lv_if_ne (tgt := 65) hx hb dX1_unit_60 (by decide) (fun hc60 => ?_) (fun hc60 => ?_)
        · have hT : ¬ yh S = 200 := fun z => hc60 (by rw [if_pos z] at hu1; exact congrArg Prod.fst hu1)
          rw [if_neg hT] at hu1
          have hu1 : u1 = (yk (yd S) (yn S) (ym S) (yh S + 1) (yg S) (yt S) (yth S) (yse S) (ynu S) (upd (yes S) (yh S) (yse S k)) (upd (yel S) (yh S) lt9) (ygi S)) := congrArg Prod.snd hu1
          have hP : va_P D vwCl (wM q cA (yk (yd S) (yn S) (ym S) (yh S + 1) (yg S) (yt S) (yth S) (yse S) (ynu S) (upd (yes S) (yh S) (yse S k)) (upd (yel S) (yh S) lt9) (ygi S))) H := by rw [hu1] at hP; exact hP
          have hD : va_D (va_A (wM q cA S) s.heap.size) (wM q cA (yk (yd S) (yn S) (ym S) (yh S + 1) (yg S) (yt S) (yth S) (yse S) (ynu S) (upd (yes S) (yh S) (yse S k)) (upd (yel S) (yh S) lt9) (ygi S))) := by rw [hu1] at hD; exact hD
          refine lv_aload_n hx hb dX1_unit_65 rfl (lv_at hl 2 rfl) ?_
          refine va_get (v := .int (nI (yn S))) hx hb hts hinX1 hown hK hP 0 rfl rfl 1 (by decide) hf33 (fun _ h9 => h9) rfl dX1_unit_66 ?_
          refine lv_iconst (v := 1) hx hb dX1_unit_69 (by decide) ?_
          refine xi_dec hx hb dX1_unit_70 ?_
          refine lv_istore_n (lv' := [(3, .int (nP (yn S))), (2, .int lt9), (1, .int (nI k)), (0, .ref (q 0))]) hx hb dX1_unit_71 rfl hl (by decide) rfl (fun ls hl => ?_)
          refine wlw (σ := Nat × Nat × (Nat → Int32) × (Nat → Int32)) (fun (x9 : Nat × Nat × (Nat → Int32) × (Nat → Int32)) (H : Heap) (locs : List Loc) ls => match x9 with | (j, n, f, g) => lv_has ls 4 [(3, .int (nP j)), (2, .int lt9), (0, .ref (q 0)), (1, .int (nI k))] ∧ va_P D vwCl (wM q cA (yk (yd S) n (ym S) (yh S + 1) (yg S) (yt S) (yth S) f g (upd (yes S) (yh S) (yse S k)) (upd (yel S) (yh S) lt9) (ygi S))) H ∧ va_D (va_A (wM q cA S) s.heap.size) (wM q cA (yk (yd S) n (ym S) (yh S + 1) (yg S) (yt S) (yth S) f g (upd (yes S) (yh S) (yse S k)) (upd (yel S) (yh S) lt9) (ygi S))) ∧ va_S (va_A (wM q cA S) s.heap.size) s.heap H locs ∧ j ≤ yn S ∧ n ≤ yn S ∧ cl_of n f g = (vML S).take j ++ ((vML S).drop j).filter (fun c => (c.1 &&& yse S k) == 0)) (fun (x9 : Nat × Nat × (Nat → Int32) × (Nat → Int32)) => match x9 with | (j, n, f, g) => j) (yn S, yn S, yse S, ynu S) ⟨lv_sub hl [0, 1, 3, 2] rfl, hP, hD, hS, (Nat.le_refl _), (Nat.le_refl _), (q_app_z _)⟩ ?_
          intro x9 H locs ls hI ih72
          obtain ⟨j, n, f, g⟩ := x9
          obtain ⟨hl, hP, hD, hS, hj, hn2, hcl⟩ := hI
          have hl : lv_has ls 4 [(3, .int (nP j)), (2, .int lt9), (0, .ref (q 0)), (1, .int (nI k))] := hl
          refine lv_iload_n hx hb dX1_unit_72 rfl (lv_at hl 0 rfl) ?_
          refine lv_if_lt (tgt := 101) hx hb dX1_unit_73 (by decide) (fun hc73 => ?_) (fun hc73 => ?_)
          · have hj0 : j = 0 := (nP_lt0 (by omega)).mp hc73
            have hcl : cl_of n f g = ((vML S).filter (fun c => (c.1 &&& yse S k) == 0)) := by rw [hcl, hj0]; rfl
            refine lv_iconst (v := 0) hx hb dX1_unit_101 (by decide) ?_
            refine lv_istore_n (lv' := [(3, .int 0), (2, .int lt9), (0, .ref (q 0)), (1, .int (nI k))]) hx hb dX1_unit_102 rfl hl (by decide) rfl (fun ls hl => ?_)
            refine wlw (σ := Nat × Nat × Nat × (Nat → Int32) × (Nat → Int32)) (fun (x9 : Nat × Nat × Nat × (Nat → Int32) × (Nat → Int32)) (H : Heap) (locs : List Loc) ls => match x9 with | (j3, fu, n3, f3, g3) => lv_has ls 4 [(3, .int (nI j3)), (2, .int lt9), (0, .ref (q 0)), (1, .int (nI k))] ∧ va_P D vwCl (wM q cA (yk (yd S) n3 (ym S) (yh S + 1) (yg S) (yt S) (yth S) f3 g3 (upd (yes S) (yh S) (yse S k)) (upd (yel S) (yh S) lt9) (ygi S))) H ∧ va_D (va_A (wM q cA S) s.heap.size) (wM q cA (yk (yd S) n3 (ym S) (yh S + 1) (yg S) (yt S) (yth S) f3 g3 (upd (yes S) (yh S) (yse S k)) (upd (yel S) (yh S) lt9) (ygi S))) ∧ va_S (va_A (wM q cA S) s.heap.size) s.heap H locs ∧ n3 ≤ 90 ∧ j3 ≤ n3 ∧ (∀ i, i < j3 → f3 i &&& (k_con (yse S k)) = 0) ∧ cf (k_con (yse S k)) (cl_of n3 f3 g3) ≤ fu ∧ q_tfa (k_con (yse S k)) 40 ((vML S).filter (fun c => (c.1 &&& yse S k) == 0)) = q_tfa (k_con (yse S k)) fu (cl_of n3 f3 g3)) (fun (x9 : Nat × Nat × Nat × (Nat → Int32) × (Nat → Int32)) => match x9 with | (j3, fu, n3, f3, g3) => cf (k_con (yse S k)) (cl_of n3 f3 g3) * 91 + (n3 - j3)) (0, 40, n, f, g) ⟨lv_sub hl [0, 1, 2, 3] rfl, hP, hD, hS, (by omega), (Nat.zero_le _), (fun i hi => absurd hi (Nat.not_lt_zero _)), (by have z := cf_le (k_con (yse S k)) (cl_of n f g); rw [cl_of_len] at z; omega), (by rw [hcl])⟩ ?_
            intro x9 H locs ls hI ih103
            obtain ⟨j3, fu, n3, f3, g3⟩ := x9
            obtain ⟨hl, hP, hD, hS, hn3, hj3, hz3, hfu, hq3⟩ := hI
            have hl : lv_has ls 4 [(3, .int (nI j3)), (2, .int lt9), (0, .ref (q 0)), (1, .int (nI k))] := hl
            refine lv_iload_n hx hb dX1_unit_103 rfl (lv_at hl 0 rfl) ?_
            refine lv_aload_n hx hb dX1_unit_104 rfl (lv_at hl 2 rfl) ?_
            refine va_get (v := .int (nI n3)) hx hb hts hinX1 hown hK hP 0 rfl rfl 1 (by decide) hf33 (fun _ h9 => h9) rfl dX1_unit_105 ?_
            refine lv_icmp_ge (tgt := 147) hx hb dX1_unit_108 (by decide) (fun hc108 => ?_) (fun hc108 => ?_)
            · have hge3 : n3 ≤ j3 := (nI_leI_ge hn3 hc108)
              refine lv_iconst (v := 1) hx hb dX1_unit_147 (by decide) ?_
              have hpo : y_samT S (yk (yd S) n3 (ym S) (yh S + 1) (yg S) (yt S) (yth S) f3 g3 (upd (yes S) (yh S) (yse S k)) (upd (yel S) (yh S) lt9) (ygi S)) ∧ g_stp S (yk (yd S) n3 (ym S) (yh S + 1) (yg S) (yt S) (yth S) f3 g3 (upd (yes S) (yh S) (yse S k)) (upd (yel S) (yh S) lt9) (ygi S)) ∧ ((1 : Int32), vML (yk (yd S) n3 (ym S) (yh S + 1) (yg S) (yt S) (yth S) f3 g3 (upd (yes S) (yh S) (yse S k)) (upd (yel S) (yh S) lt9) (ygi S)), vMT (yk (yd S) n3 (ym S) (yh S + 1) (yg S) (yt S) (yth S) f3 g3 (upd (yes S) (yh S) (yse S k)) (upd (yel S) (yh S) lt9) (ygi S))) = v_turn 0 (vML S) (vMT S) := ⟨rfl, (fun hs9 => g_st_push hs9 gk.1 hlt9.lt), by
                rw [vt_0s hun (by rw [vMT_len]; omega), hs, hq3, tfa_none (frst_none (fun i hi => by rw [cl_of_len] at hi; rw [q_set_of hi]; exact hz3 i (by omega)))]
                exact congrArg (fun z => ((1 : Int32), cl_of n3 f3 g3, z)) ((vMT_push S (yse S k) lt9).trans (by rw [hmb]))⟩
              exact W.iret (v := 1) hx hb hr (fun t ht hW => ⟨⟨1, (yk (yd S) n3 (ym S) (yh S + 1) (yg S) (yt S) (yth S) f3 g3 (upd (yes S) (yh S) (yse S k)) (upd (yel S) (yh S) lt9) (ygi S)), rfl, hpo, by rw [ht]; exact hP, va_K.moved hW.alike hK, hD⟩, hS.F ht⟩) hS.2.2 dX1_unit_148
            · have hlt3 : j3 < n3 := nI_lt_of hn3 hc108
              have hs3 : q_set (cl_of n3 f3 g3) j3 = f3 j3 := q_set_of hlt3
              refine lv_aload_n hx hb dX1_unit_111 rfl (lv_at hl 2 rfl) ?_
              refine va_get (v := .ref (q 1)) hx hb hts hinX1 hown hK hP 0 rfl rfl 2 (by decide) hf7 (fun _ h9 => h9) rfl dX1_unit_112 ?_
              refine lv_iload_n hx hb dX1_unit_115 rfl (lv_at hl 0 rfl) ?_
              refine xa_ld hx hb hK hP 1 0 rfl rfl j3 (by omega) (by first | decide | assumption) dX1_unit_116 ?_
              refine lv_iload_n hx hb dX1_unit_117 rfl (lv_at hl 1 rfl) ?_
              refine lv_ineg hx hb dX1_unit_118 ?_
              refine xc_s (As := [.int (-lt9)]) (rest := [.int (f3 j3)]) ⟨hx, hb, hml, hown, hts⟩ (kX1_bit l (-lt9)) (va_cwS 1 hts (gd_S bw_293 bw_294 bw_2 bw_295) rfl rfl rfl (by decide +kernel) ⟨Nat.le_of_ble_eq_true rfl, Nat.le_of_ble_eq_true rfl⟩) rfl hl.1 rfl (Nat.le_of_ble_eq_true rfl) dX1_unit_119 ⟨Nat.zero_le _, Nat.zero_le _⟩ ?_
              refine lv_iand hx hb dX1_unit_122 ?_
              refine lv_if_eq (tgt := 141) hx hb dX1_unit_123 (by decide) (fun hc123 => ?_) (fun hc123 => ?_)
              · rw [hmc] at hc123
                refine lv_iinc (k := 0) (v := nI (j3 + 1)) (lv' := [(3, .int (nI (j3 + 1))), (2, .int lt9), (0, .ref (q 0)), (1, .int (nI k))]) hx hb dX1_unit_141 hl rfl (ii_1 _) (by decide) rfl (fun ls hl => ?_)
                refine lv_goto (tgt := 103) hx hb dX1_unit_144 (by decide) ?_
                exact ih103 (j3 + 1, fu, n3, f3, g3) _ _ _ ⟨lv_sub hl [0, 1, 2, 3] rfl, hP, hD, hS, hn3, (by omega), (fun i hi => by rcases Nat.lt_or_ge i j3 with z | z; exact hz3 i z; rw [show i = j3 by omega]; exact hc123), hfu, hq3⟩ (by show cf (k_con (yse S k)) (cl_of n3 f3 g3) * 91 + (n3 - (j3 + 1)) < cf (k_con (yse S k)) (cl_of n3 f3 g3) * 91 + (n3 - j3); omega)
              · rw [hmc] at hc123
                refine lv_aload_n hx hb dX1_unit_126 rfl (lv_at hl 2 rfl) ?_
                refine lv_iload_n hx hb dX1_unit_127 rfl (lv_at hl 0 rfl) ?_
                refine lv_iload_n hx hb dX1_unit_128 rfl (lv_at hl 1 rfl) ?_
                refine lv_ineg hx hb dX1_unit_129 ?_
                refine xc_s (As := [.int (-lt9)]) (rest := [.int (nI j3), .ref (q 0)]) ⟨hx, hb, hml, hown, hts⟩ (kX1_bit l (-lt9)) (va_cwS 1 hts (gd_S bw_293 bw_294 bw_2 bw_295) rfl rfl rfl (by decide +kernel) ⟨Nat.le_of_ble_eq_true rfl, Nat.le_of_ble_eq_true rfl⟩) rfl hl.1 rfl (Nat.le_of_ble_eq_true rfl) dX1_unit_130 ⟨Nat.zero_le _, Nat.zero_le _⟩ ?_
                refine xc_wv (As := [.int (nI j3), .int (m_bit (-lt9))]) (rest := []) ⟨hx, hb, hml, hown, hts⟩ (kX1_take l D q cA (yk (yd S) n3 (ym S) (yh S + 1) (yg S) (yt S) (yth S) f3 g3 (upd (yes S) (yh S) (yse S k)) (upd (yel S) (yh S) lt9) (ygi S)) ⟨hn3, (show yh S + 1 ≤ 200 by omega), hg100⟩ j3 (m_bit (-lt9)) (show j3 < n3 from hlt3) _) (cwV 2 hts (gd_V bw_328 bw_329 bw_439 bw_2 bw_330) rfl rfl rfl (by decide +kernel) ⟨Nat.le_of_ble_eq_true rfl, Nat.le_of_ble_eq_true rfl⟩) (va_recv (ci := 1) (q0 := 0) hK hP rfl rfl) hP hK hD hS hA rfl hl.1 rfl (Nat.le_of_ble_eq_true rfl) dX1_unit_133 ⟨Nat.zero_le _, Nat.zero_le _⟩ (fun u3 H locs hu3 hP hD hS => ?_)
                have eu3 : u3 = (yk (yd S) (yn u3) (ym S) (yh S + 1) (yg S) (yt S) (yth S) (yse u3) (ynu u3) (upd (yes S) (yh S) (yse S k)) (upd (yel S) (yh S) lt9) (ygi S)) := hu3.1
                have hP : va_P D vwCl (wM q cA (yk (yd S) (yn u3) (ym S) (yh S + 1) (yg S) (yt S) (yth S) (yse u3) (ynu u3) (upd (yes S) (yh S) (yse S k)) (upd (yel S) (yh S) lt9) (ygi S))) H := by rw [eu3] at hP; exact hP
                have hD : va_D (va_A (wM q cA S) s.heap.size) (wM q cA (yk (yd S) (yn u3) (ym S) (yh S + 1) (yg S) (yt S) (yth S) (yse u3) (ynu u3) (upd (yes S) (yh S) (yse S k)) (upd (yel S) (yh S) lt9) (ygi S))) := by rw [eu3] at hD; exact hD
                have lu3 : cl_of (yn u3) (yse u3) (ynu u3) = q_take (cl_of n3 f3 g3) j3 (k_con (yse S k)) := by rw [← hmc]; exact hu3.2
                have yu3 : yn u3 ≤ n3 := by
                  have z := congrArg List.length lu3
                  rw [cl_of_len] at z
                  have z2 := q_take_len (L := cl_of n3 f3 g3) (k := j3) (b := (k_con (yse S k)))
                  rw [cl_of_len] at z2
                  omega
                have cu3 := cf_take (b := (k_con (yse S k))) (L := cl_of n3 f3 g3) (k := j3) (by rw [cl_of_len]; exact hlt3) (by rw [hs3]; exact hc123)
                rw [← lu3] at cu3
                obtain ⟨fu, rfl⟩ : ∃ z, fu = z + 1 := ⟨fu - 1, by omega⟩
                refine lv_iconst (v := 0) hx hb dX1_unit_136 (by decide) ?_
                refine lv_istore_n (lv' := [(3, .int 0), (2, .int lt9), (0, .ref (q 0)), (1, .int (nI k))]) hx hb dX1_unit_137 rfl hl (by decide) rfl (fun ls hl => ?_)
                refine lv_goto (tgt := 103) hx hb dX1_unit_138 (by decide) ?_
                exact ih103 (0, fu, yn u3, yse u3, ynu u3) _ _ _ ⟨lv_sub hl [0, 1, 2, 3] rfl, hP, hD, hS, (by omega), (Nat.zero_le _), (fun i hi => absurd hi (Nat.not_lt_zero _)), (by omega), (by rw [hq3, tfa_s (frst_some (by rw [cl_of_len]; exact hlt3) (fun i hi => by rw [q_set_of (by omega)]; exact hz3 i hi) (by rw [hs3]; exact hc123)), lu3])⟩ (by show cf (k_con (yse S k)) (cl_of (yn u3) (yse u3) (ynu u3)) * 91 + (yn u3 - 0) < cf (k_con (yse S k)) (cl_of n3 f3 g3) * 91 + (n3 - j3); omega)
          · obtain ⟨i, rfl⟩ : ∃ i, j = i + 1 := ⟨j - 1, by have z : ¬ j = 0 := fun z => hc73 ((nP_lt0 (by omega)).mpr z); omega⟩
            have hl : lv_has ls 4 [(3, .int (nI i)), (2, .int lt9), (0, .ref (q 0)), (1, .int (nI k))] := by rw [nP_s] at hl; exact hl
            have hrd := dn_rd (by rw [vML_len]; omega) hcl
            refine lv_aload_n hx hb dX1_unit_76 rfl (lv_at hl 2 rfl) ?_
            refine va_get (v := .ref (q 1)) hx hb hts hinX1 hown hK hP 0 rfl rfl 2 (by decide) hf7 (fun _ h9 => h9) rfl dX1_unit_77 ?_
            refine lv_iload_n hx hb dX1_unit_80 rfl (lv_at hl 0 rfl) ?_
            refine xa_ld hx hb hK hP 1 0 rfl rfl i (by omega) (by first | decide | assumption) dX1_unit_81 ?_
            refine lv_iload_n hx hb dX1_unit_82 rfl (lv_at hl 1 rfl) ?_
            refine xc_s (As := [.int lt9]) (rest := [.int (f i)]) ⟨hx, hb, hml, hown, hts⟩ (kX1_bit l lt9) (va_cwS 1 hts (gd_S bw_293 bw_294 bw_2 bw_295) rfl rfl rfl (by decide +kernel) ⟨Nat.le_of_ble_eq_true rfl, Nat.le_of_ble_eq_true rfl⟩) rfl hl.1 rfl (Nat.le_of_ble_eq_true rfl) dX1_unit_83 ⟨Nat.zero_le _, Nat.zero_le _⟩ ?_
            refine lv_iand hx hb dX1_unit_86 ?_
            refine lv_if_eq (tgt := 95) hx hb dX1_unit_87 (by decide) (fun hc87 => ?_) (fun hc87 => ?_)
            · rw [hmb] at hc87
              refine lv_iinc (k := 0) (v := nP i) (lv' := [(3, .int (nP i)), (2, .int lt9), (0, .ref (q 0)), (1, .int (nI k))]) hx hb dX1_unit_95 hl rfl (ii_p _) (by decide) rfl (fun ls hl => ?_)
              refine lv_goto (tgt := 72) hx hb dX1_unit_98 (by decide) ?_
              exact ih72 (i, n, f, g) _ _ _ ⟨lv_sub hl [0, 1, 2, 3] rfl, hP, hD, hS, (by omega), (by omega), (by rw [hcl, dn_keep (by rw [vML_len]; omega) (by rw [← hrd.2.1]; simp [hc87])])⟩ (by show i < i + 1; omega)
            · rw [hmb] at hc87
              refine lv_aload_n hx hb dX1_unit_90 rfl (lv_at hl 2 rfl) ?_
              refine lv_iload_n hx hb dX1_unit_91 rfl (lv_at hl 0 rfl) ?_
              refine xc_wv (As := [.int (nI i)]) (rest := []) ⟨hx, hb, hml, hown, hts⟩ (kX1_remove l D q cA (yk (yd S) n (ym S) (yh S + 1) (yg S) (yt S) (yth S) f g (upd (yes S) (yh S) (yse S k)) (upd (yel S) (yh S) lt9) (ygi S)) ⟨(show n ≤ 90 by omega), (show yh S + 1 ≤ 200 by omega), hg100⟩ i (show i < n from hrd.1) _) (cwV 1 hts (gd_V bw_325 bw_326 bw_438 bw_2 bw_327) rfl rfl rfl (by decide +kernel) ⟨Nat.le_of_ble_eq_true rfl, Nat.le_of_ble_eq_true rfl⟩) (va_recv (ci := 1) (q0 := 0) hK hP rfl rfl) hP hK hD hS hA rfl hl.1 rfl (Nat.le_of_ble_eq_true rfl) dX1_unit_92 ⟨Nat.zero_le _, Nat.zero_le _⟩ (fun u5 H locs hu5 hP hD hS => ?_)
              have hP : va_P D vwCl (wM q cA (yk (yd S) (n - 1) (ym S) (yh S + 1) (yg S) (yt S) (yth S) (rmv i (n - 1) f) (rmv i (n - 1) g) (upd (yes S) (yh S) (yse S k)) (upd (yel S) (yh S) lt9) (ygi S))) H := by rw [hu5] at hP; exact hP
              have hD : va_D (va_A (wM q cA S) s.heap.size) (wM q cA (yk (yd S) (n - 1) (ym S) (yh S + 1) (yg S) (yt S) (yth S) (rmv i (n - 1) f) (rmv i (n - 1) g) (upd (yes S) (yh S) (yse S k)) (upd (yel S) (yh S) lt9) (ygi S))) := by rw [hu5] at hD; exact hD
              refine lv_iinc (k := 0) (v := nP i) (lv' := [(3, .int (nP i)), (2, .int lt9), (0, .ref (q 0)), (1, .int (nI k))]) hx hb dX1_unit_95 hl rfl (ii_p _) (by decide) rfl (fun ls hl => ?_)
              refine lv_goto (tgt := 72) hx hb dX1_unit_98 (by decide) ?_
              exact ih72 (i, n - 1, rmv i (n - 1) f, rmv i (n - 1) g) _ _ _ ⟨lv_sub hl [0, 1, 2, 3] rfl, hP, hD, hS, (by omega), (by omega), (by rw [rmv_cl hrd.1, hcl, dn_drop (by rw [vML_len]; omega) (by rw [← hrd.2.1]; simp [hc87])])⟩ (by show i < i + 1; omega)
        · have hT : yh S = 200 := Classical.byContradiction fun z => by
            rw [if_neg z] at hu1
            have z2 : r2 = 1 := congrArg Prod.fst hu1
            rw [hc60] at z2
            exact absurd z2 (by decide)
          rw [if_pos hT] at hu1
          have hu1 : u1 = S := congrArg Prod.snd hu1
          have hP : va_P D vwCl (wM q cA S) H := by rw [hu1] at hP; exact hP
          have hD : va_D (va_A (wM q cA S) s.heap.size) (wM q cA S) := by rw [hu1] at hD; exact hD
          refine lv_iconst (v := (-1)) hx hb dX1_unit_63 (by decide) ?_
          have hpo : y_samT S S ∧ g_stp S S ∧ (((-1) : Int32), vML S, vMT S) = v_turn 0 (vML S) (vMT S) := ⟨(y_same.rf S).T, g_stp.rf S, by rw [vt_0f hun (by rw [vMT_len]; omega)]⟩
          exact W.iret (v := (-1)) hx hb hr (fun t ht hW => ⟨⟨(-1), S, rfl, hpo, by rw [ht]; exact hP, va_K.moved hW.alike hK, hD⟩, hS.F ht⟩) hS.2.2 dX1_unit_64
      · exact absurd ((nI_eq (by omega) (by omega)).mp hc34) (by omega)
    · refine lv_iinc (k := 0) (v := nI (k + 1)) (lv' := [(1, .int (nI (k + 1))), (0, .ref (q 0))]) hx hb dX1_unit_23 hl rfl (ii_1 _) (by decide) rfl (fun ls hl => ?_)
      refine lv_goto (tgt := 2) hx hb dX1_unit_26 (by decide) ?_
      exact ih2 (k + 1) _ ⟨lv_sub hl [0, 1] rfl, (by omega), hq.trans (q_up_f hlt (by rw [hs, sing_pc gk.1]; simp [hc20]))⟩ (by omega)
