/-! The reference: its clauses and stack. -/
set_option maxHeartbeats 4000000 in
set_option maxRecDepth 100000 in
theorem kX1_find (l : Launch) (D : va_G) (q : Nat → Nat) (cA : ClassId) (S : MS) (hok : okM S) (x : Int32) : xr_M l yX1_find wsX1_find ({ frames := 0, cells := 0, slots := 0, locals := 0 }) D vwCl [(cA, .int)] [.ref (q 0), .int x] (wM q cA S) (q_idx (q_find (vML S) x)) := by
  refine Met.ofW (cc := cX1_find) (maxL := 3) (ret := (some .int)) (by decide) rfl ?_
  intro p e s m args below meth c s₁ B hml hv
  obtain ⟨rfl, hP, hK⟩ := hv
  obtain ⟨hn40, hh200, hg100⟩ := id hok
  have hx := B.exec
  have hb := B.bytes
  have hr := B.returns
  have hts := atoms_spec (ws := wsX1_find) B.pre
  have hown : s.vm.findClass RX1 = some m.cls := findClass_of_methodNamed B.named
  have hlocks := B.notSynchronized
  have hinX1 : ∀ w ∈ u_ws RX1 TX1 12, w ∈ wsX1_find := fun w h => List.mem_cons_of_mem _ (bw_X1 w h)
  have hf7 := hts _ (List.mem_cons_of_mem _ bw_260)
  have hf33 := hts _ (List.mem_cons_of_mem _ bw_259)
  have hl := lv_entry ([.ref (q 0), .int x]) (n := 3) (Nat.le_of_ble_eq_true rfl)
  rw [lg_entry_eq]
  generalize (lg_sl ([.ref (q 0), .int x]) ++ List.replicate (3 - (lg_sl ([.ref (q 0), .int x])).length) Slot.unset).toArray = ls at hl ⊢
  have hl : lv_has ls 3 [(0, .ref (q 0)), (1, .int x)] := hl
  refine lv_iconst (v := 0) hx hb dX1_find_0 (by decide) ?_
  refine lv_istore_n (lv' := [(2, .int 0), (0, .ref (q 0)), (1, .int x)]) hx hb dX1_find_1 rfl hl (by decide) rfl (fun ls hl => ?_)
  refine wlr (σ := Nat) (fun (k : Nat) ls => lv_has ls 3 [(2, .int (nI k)), (0, .ref (q 0)), (1, .int x)] ∧ k ≤ yn S ∧ q_up (fun k => q_set (vML S) k == x) (yn S - 0) 0 = q_up (fun k => q_set (vML S) k == x) (yn S - k) k) (fun (k : Nat) => yn S - k) 0 ⟨lv_sub hl [0, 1, 2] rfl, (by omega), rfl⟩ ?_
  intro k ls hI ih2
  obtain ⟨hl, hk, hq⟩ := hI
  have hl : lv_has ls 3 [(2, .int (nI k)), (0, .ref (q 0)), (1, .int x)] := hl
  refine lv_iload_n hx hb dX1_find_2 rfl (lv_at hl 0 rfl) ?_
  refine lv_aload_n hx hb dX1_find_3 rfl (lv_at hl 1 rfl) ?_
  refine va_get (v := .int (nI (yn S))) hx hb hts hinX1 hown hK hP 0 rfl rfl 1 (by decide) hf33 (fun _ h9 => h9) rfl dX1_find_4 ?_
  refine lv_icmp_ge (tgt := 28) hx hb dX1_find_7 (by decide) (fun hc7 => ?_) (fun hc7 => ?_)
  · have hge : yn S ≤ k := (nI_leI (by omega) (by omega)).mp hc7
    refine lv_iconst (v := (-1)) hx hb dX1_find_28 (by decide) ?_
    have hv9 : q_idx (q_find (vML S) x) = (-1) := by rw [show q_find (vML S) x = q_up (fun k => q_set (vML S) k == x) (yn S - 0) 0 from by unfold q_find; rw [cl_of_len]; rfl, hq, q_up_end hge]; rfl
    exact W.iret (v := (-1)) hx hb hr (fun t ht hW => ⟨by rw [hv9], ht⟩) (fun _ h => nomatch h) dX1_find_29
  · have hlt : k < yn S := Nat.lt_of_not_le (fun z => hc7 ((nI_leI (by omega) (by omega)).mpr z))
    have hs : q_set (vML S) k = yse S k := q_set_of hlt
    refine lv_aload_n hx hb dX1_find_10 rfl (lv_at hl 1 rfl) ?_
    refine va_get (v := .ref (q 1)) hx hb hts hinX1 hown hK hP 0 rfl rfl 2 (by decide) hf7 (fun _ h9 => h9) rfl dX1_find_11 ?_
    refine lv_iload_n hx hb dX1_find_14 rfl (lv_at hl 0 rfl) ?_
    refine xa_ld hx hb hK hP 1 0 rfl rfl k (by omega) (by first | decide | assumption) dX1_find_15 ?_
    refine lv_iload_n hx hb dX1_find_16 rfl (lv_at hl 2 rfl) ?_
    refine lv_icmp_ne (tgt := 22) hx hb dX1_find_17 (by decide) (fun hc17 => ?_) (fun hc17 => ?_)
    · refine lv_iinc (k := 0) (v := nI (k + 1)) (lv' := [(2, .int (nI (k + 1))), (0, .ref (q 0)), (1, .int x)]) hx hb dX1_find_22 hl rfl (ii_1 _) (by decide) rfl (fun ls hl => ?_)
      refine lv_goto (tgt := 2) hx hb dX1_find_25 (by decide) ?_
      exact ih2 (k + 1) _ ⟨lv_sub hl [0, 1, 2] rfl, (by omega), hq.trans (q_up_f hlt (by simp [hc17, hs]))⟩ (by omega)
    · refine lv_iload_n hx hb dX1_find_20 rfl (lv_at hl 0 rfl) ?_
      have hv9 : q_idx (q_find (vML S) x) = nI k := by rw [show q_find (vML S) x = q_up (fun k => q_set (vML S) k == x) (yn S - 0) 0 from by unfold q_find; rw [cl_of_len]; rfl, hq, q_up_t hlt (by simp [hs, hc17])]; rfl
      exact W.iret (v := (nI k)) hx hb hr (fun t ht hW => ⟨by rw [hv9], ht⟩) (fun _ h => nomatch h) dX1_find_21

set_option maxHeartbeats 4000000 in
set_option maxRecDepth 100000 in
theorem kX1_remove (l : Launch) (D : va_G) (q : Nat → Nat) (cA : ClassId) (S : MS) (hok : okM S) (k : Nat) (hk9 : k < yn S) (sz : Nat) : xw_Mv l yX1_remove wsX1_remove ({ frames := 0, cells := 0, slots := 0, locals := 0 }) D vwCl [(cA, .int)] [.ref (q 0), .int (nI k)] (wM q cA S) sz (fun u : MS => u = (yk (yd S) (yn S - 1) (ym S) (yh S) (yg S) (yt S) (yth S) (rmv k (yn S - 1) (yse S)) (rmv k (yn S - 1) (ynu S)) (yes S) (yel S) (ygi S))) (wM q cA) := by
  refine Met.ofW (cc := cX1_remove) (maxL := 3) (ret := none) (by decide) rfl ?_
  intro p e s m args below meth c s₁ B hml hv
  obtain ⟨rfl, hsz, hP, hK, hD0⟩ := hv
  subst hsz
  have hD := hD0.self (sz := s.heap.size)
  have hA : ∀ z, s.heap.size ≤ z → va_A (wM q cA S) s.heap.size z := fun z h => Or.inr h
  have hS : va_S (va_A (wM q cA S) s.heap.size) s.heap s.heap [] := va_S.rf
  obtain ⟨hn40, hh200, hg100⟩ := id hok
  have hx := B.exec
  have hb := B.bytes
  have hr := B.returns
  have hts := atoms_spec (ws := wsX1_remove) B.pre
  have hown : s.vm.findClass RX1 = some m.cls := findClass_of_methodNamed B.named
  have hlocks := B.notSynchronized
  have hinX1 : ∀ w ∈ u_ws RX1 TX1 12, w ∈ wsX1_remove := fun w h => List.mem_cons_of_mem _ (bw_X1 w h)
  have hf7 := hts _ (List.mem_cons_of_mem _ bw_260)
  have hf13 := hts _ (List.mem_cons_of_mem _ bw_261)
  have hf33 := hts _ (List.mem_cons_of_mem _ bw_259)
  have hl := lv_entry ([.ref (q 0), .int (nI k)]) (n := 3) (Nat.le_of_ble_eq_true rfl)
  rw [lg_entry_eq]
  generalize (lg_sl ([.ref (q 0), .int (nI k)]) ++ List.replicate (3 - (lg_sl ([.ref (q 0), .int (nI k)])).length) Slot.unset).toArray = ls at hl ⊢
  have hl : lv_has ls 3 [(0, .ref (q 0)), (1, .int (nI k))] := hl
  refine lv_aload_n hx hb dX1_remove_0 rfl (lv_at hl 0 rfl) ?_
  refine lv_dup hx hb dX1_remove_1 rfl ?_
  refine va_get (v := .int (nI (yn S))) hx hb hts hinX1 hown hK hP 0 rfl rfl 1 (by decide) hf33 (fun _ h9 => h9) rfl dX1_remove_2 ?_
  refine lv_iconst (v := 1) hx hb dX1_remove_5 (by decide) ?_
  refine xi_dec hx hb dX1_remove_6 ?_
  refine lv_topi (fun z1 ez1 => ?_)
  obtain rfl : z1 = nI (yn S - 1) := ez1.trans (nP_sub (by omega))
  refine va_put (v := .int (nI (yn S - 1))) (ty := .int) hx hb hts hinX1 tyX1 tyX1_ok nmX1 hown hK hP hD hS 0 rfl rfl 1 (by decide) hf33 (fun _ h9 => h9) rfl (by decide +kernel) rfl rfl (Nat.le_of_ble_eq_true rfl) dX1_remove_7 (fun H locs hP hD hS => ?_)
  have hP : va_P D vwCl (wM q cA (yk (yd S) (yn S - 1) (ym S) (yh S) (yg S) (yt S) (yth S) (yse S) (ynu S) (yes S) (yel S) (ygi S))) H := hP
  have hD : va_D _ (wM q cA (yk (yd S) (yn S - 1) (ym S) (yh S) (yg S) (yt S) (yth S) (yse S) (ynu S) (yes S) (yel S) (ygi S))) := hD
  refine lv_iload_n hx hb dX1_remove_10 rfl (lv_at hl 1 rfl) ?_
  refine lv_istore_n (lv' := [(2, .int (nI k)), (0, .ref (q 0)), (1, .int (nI k))]) hx hb dX1_remove_11 rfl hl (by decide) rfl (fun ls hl => ?_)
  refine wlw (σ := Nat) (fun (i : Nat) (H : Heap) (locs : List Loc) ls => lv_has ls 3 [(2, .int (nI i)), (0, .ref (q 0)), (1, .int (nI k))] ∧ va_P D vwCl (wM q cA (yk (yd S) (yn S - 1) (ym S) (yh S) (yg S) (yt S) (yth S) (rmv k i (yse S)) (rmv k i (ynu S)) (yes S) (yel S) (ygi S))) H ∧ va_D (va_A (wM q cA S) s.heap.size) (wM q cA (yk (yd S) (yn S - 1) (ym S) (yh S) (yg S) (yt S) (yth S) (rmv k i (yse S)) (rmv k i (ynu S)) (yes S) (yel S) (ygi S))) ∧ va_S (va_A (wM q cA S) s.heap.size) s.heap H locs ∧ k ≤ i ∧ i ≤ yn S - 1) (fun (i : Nat) => yn S - i) k ⟨lv_sub hl [0, 1, 2] rfl, (by rw [rmv_0, rmv_0]; exact hP), (by rw [rmv_0, rmv_0]; exact hD), hS, Nat.le_refl _, (by omega)⟩ ?_
  intro i H locs ls hI ih12
  obtain ⟨hl, hP, hD, hS, h1, h2⟩ := hI
  have hl : lv_has ls 3 [(2, .int (nI i)), (0, .ref (q 0)), (1, .int (nI k))] := hl
  refine lv_iload_n hx hb dX1_remove_12 rfl (lv_at hl 0 rfl) ?_
  refine lv_aload_n hx hb dX1_remove_13 rfl (lv_at hl 1 rfl) ?_
  refine va_get (v := .int (nI (yn S - 1))) hx hb hts hinX1 hown hK hP 0 rfl rfl 1 (by decide) hf33 (fun _ h9 => h9) rfl dX1_remove_14 ?_
  refine lv_icmp_ge (tgt := 54) hx hb dX1_remove_17 (by decide) (fun hc17 => ?_) (fun hc17 => ?_)
  · have hge : yn S - 1 ≤ i := (nI_leI (by omega) (by omega)).mp hc17
    have hpo : (yk (yd S) (yn S - 1) (ym S) (yh S) (yg S) (yt S) (yth S) (rmv k i (yse S)) (rmv k i (ynu S)) (yes S) (yel S) (ygi S)) = (yk (yd S) (yn S - 1) (ym S) (yh S) (yg S) (yt S) (yth S) (rmv k (yn S - 1) (yse S)) (rmv k (yn S - 1) (ynu S)) (yes S) (yel S) (ygi S)) := by rw [show i = yn S - 1 by omega]
    exact W.vret hx hb hr (fun t ht hW => ⟨⟨(yk (yd S) (yn S - 1) (ym S) (yh S) (yg S) (yt S) (yth S) (rmv k i (yse S)) (rmv k i (ynu S)) (yes S) (yel S) (ygi S)), rfl, hpo, by rw [ht]; exact hP, va_K.moved hW.alike hK, hD⟩, hS.F ht⟩) hS.2.2 dX1_remove_54
  · have hlt : i < yn S - 1 := Nat.lt_of_not_le (fun z => hc17 ((nI_leI (by omega) (by omega)).mpr z))
    refine lv_aload_n hx hb dX1_remove_20 rfl (lv_at hl 1 rfl) ?_
    refine va_get (v := .ref (q 1)) hx hb hts hinX1 hown hK hP 0 rfl rfl 2 (by decide) hf7 (fun _ h9 => h9) rfl dX1_remove_21 ?_
    refine lv_iload_n hx hb dX1_remove_24 rfl (lv_at hl 0 rfl) ?_
    refine lv_aload_n hx hb dX1_remove_25 rfl (lv_at hl 1 rfl) ?_
    refine va_get (v := .ref (q 1)) hx hb hts hinX1 hown hK hP 0 rfl rfl 2 (by decide) hf7 (fun _ h9 => h9) rfl dX1_remove_26 ?_
    refine lv_iload_n hx hb dX1_remove_29 rfl (lv_at hl 0 rfl) ?_
    refine lv_iconst (v := 1) hx hb dX1_remove_30 (by decide) ?_
    refine xi_inc hx hb dX1_remove_31 ?_
    refine xa_ld hx hb hK hP 1 0 rfl rfl (i + 1) (by omega) (by first | decide | assumption) dX1_remove_32 ?_
    refine xa_st hx hb hK hP hD hS 1 0 rfl rfl i (by omega) (by first | decide | assumption) dX1_remove_33 (fun H locs hP hD hS => ?_)
    have hP : va_P D vwCl (wM q cA (yk (yd S) (yn S - 1) (ym S) (yh S) (yg S) (yt S) (yth S) (upd (rmv k i (yse S)) i ((rmv k i (yse S)) (i + 1))) (rmv k i (ynu S)) (yes S) (yel S) (ygi S))) H := hP
    have hD : va_D _ (wM q cA (yk (yd S) (yn S - 1) (ym S) (yh S) (yg S) (yt S) (yth S) (upd (rmv k i (yse S)) i ((rmv k i (yse S)) (i + 1))) (rmv k i (ynu S)) (yes S) (yel S) (ygi S))) := hD
    refine lv_aload_n hx hb dX1_remove_34 rfl (lv_at hl 1 rfl) ?_
    refine va_get (v := .ref (q 2)) hx hb hts hinX1 hown hK hP 0 rfl rfl 3 (by decide) hf13 (fun _ h9 => h9) rfl dX1_remove_35 ?_
    refine lv_iload_n hx hb dX1_remove_38 rfl (lv_at hl 0 rfl) ?_
    refine lv_aload_n hx hb dX1_remove_39 rfl (lv_at hl 1 rfl) ?_
    refine va_get (v := .ref (q 2)) hx hb hts hinX1 hown hK hP 0 rfl rfl 3 (by decide) hf13 (fun _ h9 => h9) rfl dX1_remove_40 ?_
    refine lv_iload_n hx hb dX1_remove_43 rfl (lv_at hl 0 rfl) ?_
    refine lv_iconst (v := 1) hx hb dX1_remove_44 (by decide) ?_
    refine xi_inc hx hb dX1_remove_45 ?_
    refine xa_ld hx hb hK hP 2 0 rfl rfl (i + 1) (by omega) (by first | decide | assumption) dX1_remove_46 ?_
    refine xa_st hx hb hK hP hD hS 2 0 rfl rfl i (by omega) (by first | decide | assumption) dX1_remove_47 (fun H locs hP hD hS => ?_)
    have hP : va_P D vwCl (wM q cA (yk (yd S) (yn S - 1) (ym S) (yh S) (yg S) (yt S) (yth S) (upd (rmv k i (yse S)) i ((rmv k i (yse S)) (i + 1))) (upd (rmv k i (ynu S)) i ((rmv k i (ynu S)) (i + 1))) (yes S) (yel S) (ygi S))) H := hP
    have hD : va_D _ (wM q cA (yk (yd S) (yn S - 1) (ym S) (yh S) (yg S) (yt S) (yth S) (upd (rmv k i (yse S)) i ((rmv k i (yse S)) (i + 1))) (upd (rmv k i (ynu S)) i ((rmv k i (ynu S)) (i + 1))) (yes S) (yel S) (ygi S))) := hD
    refine lv_iinc (k := 0) (v := nI (i + 1)) (lv' := [(2, .int (nI (i + 1))), (0, .ref (q 0)), (1, .int (nI k))]) hx hb dX1_remove_48 hl rfl (ii_1 _) (by decide) rfl (fun ls hl => ?_)
    refine lv_goto (tgt := 12) hx hb dX1_remove_51 (by decide) ?_
    exact ih12 (i + 1) _ _ _ ⟨lv_sub hl [0, 1, 2] rfl, (by rw [← rmv_s h1 (yse S), ← rmv_s h1 (ynu S)]; exact hP), (by rw [← rmv_s h1 (yse S), ← rmv_s h1 (ynu S)]; exact hD), hS, (by omega), (by omega)⟩ (by omega)

set_option maxHeartbeats 4000000 in
set_option maxRecDepth 100000 in
theorem kX1_make (l : Launch) (D : va_G) (q : Nat → Nat) (cA : ClassId) (S : MS) (hok : okM S) (x : Int32) (hn9 : yn S < 90) (sz : Nat) : xw_Mi l yX1_make wsX1_make ({ frames := 1, cells := 0, slots := 0, locals := 22 }) D vwCl [(cA, .int)] [.ref (q 0), .int x] (wM q cA S) sz (fun (r : Int32) (u : MS) => (r, u) = (if m_taut x = true ∨ ¬ q_find (vML S) x = none then ((-1 : Int32), S) else (ym S, (yk (yd S) (yn S + 1) (ym S + 1) (yh S) (yg S) (yt S) (yth S) (upd (yse S) (yn S) x) (upd (ynu S) (yn S) (ym S)) (yes S) (yel S) (ygi S))))) (wM q cA) := by
  refine Met.ofW (cc := cX1_make) (maxL := 2) (ret := (some .int)) (by decide) rfl ?_
  intro p e s m args below meth c s₁ B hml hv
  obtain ⟨rfl, hsz, hP, hK, hD0⟩ := hv
  subst hsz
  have hD := hD0.self (sz := s.heap.size)
  have hA : ∀ z, s.heap.size ≤ z → va_A (wM q cA S) s.heap.size z := fun z h => Or.inr h
  have hS : va_S (va_A (wM q cA S) s.heap.size) s.heap s.heap [] := va_S.rf
  obtain ⟨hn40, hh200, hg100⟩ := id hok
  have hx := B.exec
  have hb := B.bytes
  have hr := B.returns
  have hts := atoms_spec (ws := wsX1_make) B.pre
  have hown : s.vm.findClass RX1 = some m.cls := findClass_of_methodNamed B.named
  have hlocks := B.notSynchronized
  have hinX1 : ∀ w ∈ u_ws RX1 TX1 12, w ∈ wsX1_make := fun w h => List.mem_cons_of_mem _ (bw_X1 w h)
  have hf7 := hts _ (List.mem_cons_of_mem _ bw_260)
  have hf13 := hts _ (List.mem_cons_of_mem _ bw_261)
  have hf33 := hts _ (List.mem_cons_of_mem _ bw_259)
  have hf43 := hts _ (List.mem_cons_of_mem _ bw_262)
  have hl := lv_entry ([.ref (q 0), .int x]) (n := 2) (Nat.le_of_ble_eq_true rfl)
  rw [lg_entry_eq]
  generalize (lg_sl ([.ref (q 0), .int x]) ++ List.replicate (2 - (lg_sl ([.ref (q 0), .int x])).length) Slot.unset).toArray = ls at hl ⊢
  have hl : lv_has ls 2 [(0, .ref (q 0)), (1, .int x)] := hl
  refine lv_iload_n hx hb dX1_make_0 rfl (lv_at hl 1 rfl) ?_
  refine xc_s (As := [.int x]) (rest := []) ⟨hx, hb, hml, hown, hts⟩ (kX1_isTautology l x) (va_cwS 1 hts (gd_S bw_303 bw_304 bw_2 bw_305) rfl rfl rfl (by decide +kernel) ⟨Nat.le_of_ble_eq_true rfl, Nat.le_of_ble_eq_true rfl⟩) rfl hl.1 rfl (Nat.le_of_ble_eq_true rfl) dX1_make_1 ⟨Nat.zero_le _, Nat.zero_le _⟩ ?_
  refine lv_if_ne (tgt := 15) hx hb dX1_make_4 (by decide) (fun hc4 => ?_) (fun hc4 => ?_)
  · have h1 : m_taut x = true := kb_n0.mp hc4
    refine lv_iconst (v := (-1)) hx hb dX1_make_15 (by decide) ?_
    have hpo : ((-1), S) = (if m_taut x = true ∨ ¬ q_find (vML S) x = none then ((-1 : Int32), S) else (ym S, (yk (yd S) (yn S + 1) (ym S + 1) (yh S) (yg S) (yt S) (yth S) (upd (yse S) (yn S) x) (upd (ynu S) (yn S) (ym S)) (yes S) (yel S) (ygi S)))) := by rw [if_pos (Or.inl h1)]
    exact W.iret (v := (-1)) hx hb hr (fun t ht hW => ⟨⟨(-1), S, rfl, hpo, by rw [ht]; exact hP, va_K.moved hW.alike hK, hD⟩, hS.F ht⟩) hS.2.2 dX1_make_16
  · have h1 : m_taut x = false := kb_0.mp hc4
    refine lv_aload_n hx hb dX1_make_7 rfl (lv_at hl 0 rfl) ?_
    refine lv_iload_n hx hb dX1_make_8 rfl (lv_at hl 1 rfl) ?_
    refine xc_rv (As := [.int x]) (rest := []) ⟨hx, hb, hml, hown, hts⟩ (kX1_find l D q cA S hok x) (cwV 1 hts (gd_V bw_306 bw_307 bw_434 bw_2 bw_308) rfl rfl rfl (by decide +kernel) ⟨Nat.le_of_ble_eq_true rfl, Nat.le_of_ble_eq_true rfl⟩) (va_recv (ci := 1) (q0 := 0) hK hP rfl rfl) hP hK rfl hl.1 rfl (Nat.le_of_ble_eq_true rfl) dX1_make_9 ⟨Nat.zero_le _, Nat.zero_le _⟩ ?_
    refine lv_if_lt (tgt := 17) hx hb dX1_make_12 (by decide) (fun hc12 => ?_) (fun hc12 => ?_)
    · have h2 : q_find (vML S) x = none := (q_find_lt0 (by rw [vML_len]; omega)).mp hc12
      refine lv_aload_n hx hb dX1_make_17 rfl (lv_at hl 0 rfl) ?_
      refine va_get (v := .ref (q 1)) hx hb hts hinX1 hown hK hP 0 rfl rfl 2 (by decide) hf7 (fun _ h9 => h9) rfl dX1_make_18 ?_
      refine lv_aload_n hx hb dX1_make_21 rfl (lv_at hl 0 rfl) ?_
      refine va_get (v := .int (nI (yn S))) hx hb hts hinX1 hown hK hP 0 rfl rfl 1 (by decide) hf33 (fun _ h9 => h9) rfl dX1_make_22 ?_
      refine lv_iload_n hx hb dX1_make_25 rfl (lv_at hl 1 rfl) ?_
      refine xa_st hx hb hK hP hD hS 1 0 rfl rfl (yn S) (by omega) (by first | decide | assumption) dX1_make_26 (fun H locs hP hD hS => ?_)
      have hP : va_P D vwCl (wM q cA (yk (yd S) (yn S) (ym S) (yh S) (yg S) (yt S) (yth S) (upd (yse S) (yn S) x) (ynu S) (yes S) (yel S) (ygi S))) H := hP
      have hD : va_D _ (wM q cA (yk (yd S) (yn S) (ym S) (yh S) (yg S) (yt S) (yth S) (upd (yse S) (yn S) x) (ynu S) (yes S) (yel S) (ygi S))) := hD
      refine lv_aload_n hx hb dX1_make_27 rfl (lv_at hl 0 rfl) ?_
      refine va_get (v := .ref (q 2)) hx hb hts hinX1 hown hK hP 0 rfl rfl 3 (by decide) hf13 (fun _ h9 => h9) rfl dX1_make_28 ?_
      refine lv_aload_n hx hb dX1_make_31 rfl (lv_at hl 0 rfl) ?_
      refine va_get (v := .int (nI (yn S))) hx hb hts hinX1 hown hK hP 0 rfl rfl 1 (by decide) hf33 (fun _ h9 => h9) rfl dX1_make_32 ?_
      refine lv_aload_n hx hb dX1_make_35 rfl (lv_at hl 0 rfl) ?_
      refine va_get (v := .int (ym S)) hx hb hts hinX1 hown hK hP 0 rfl rfl 4 (by decide) hf43 (fun _ h9 => h9) rfl dX1_make_36 ?_
      refine xa_st hx hb hK hP hD hS 2 0 rfl rfl (yn S) (by omega) (by first | decide | assumption) dX1_make_39 (fun H locs hP hD hS => ?_)
      have hP : va_P D vwCl (wM q cA (yk (yd S) (yn S) (ym S) (yh S) (yg S) (yt S) (yth S) (upd (yse S) (yn S) x) (upd (ynu S) (yn S) (ym S)) (yes S) (yel S) (ygi S))) H := hP
      have hD : va_D _ (wM q cA (yk (yd S) (yn S) (ym S) (yh S) (yg S) (yt S) (yth S) (upd (yse S) (yn S) x) (upd (ynu S) (yn S) (ym S)) (yes S) (yel S) (ygi S))) := hD
      refine lv_aload_n hx hb dX1_make_40 rfl (lv_at hl 0 rfl) ?_
      refine lv_dup hx hb dX1_make_41 rfl ?_
      refine va_get (v := .int (nI (yn S))) hx hb hts hinX1 hown hK hP 0 rfl rfl 1 (by decide) hf33 (fun _ h9 => h9) rfl dX1_make_42 ?_
      refine lv_iconst (v := 1) hx hb dX1_make_45 (by decide) ?_
      refine xi_inc hx hb dX1_make_46 ?_
      refine va_put (v := .int (nI (yn S + 1))) (ty := .int) hx hb hts hinX1 tyX1 tyX1_ok nmX1 hown hK hP hD hS 0 rfl rfl 1 (by decide) hf33 (fun _ h9 => h9) rfl (by decide +kernel) rfl rfl (Nat.le_of_ble_eq_true rfl) dX1_make_47 (fun H locs hP hD hS => ?_)
      have hP : va_P D vwCl (wM q cA (yk (yd S) (yn S + 1) (ym S) (yh S) (yg S) (yt S) (yth S) (upd (yse S) (yn S) x) (upd (ynu S) (yn S) (ym S)) (yes S) (yel S) (ygi S))) H := hP
      have hD : va_D _ (wM q cA (yk (yd S) (yn S + 1) (ym S) (yh S) (yg S) (yt S) (yth S) (upd (yse S) (yn S) x) (upd (ynu S) (yn S) (ym S)) (yes S) (yel S) (ygi S))) := hD
      refine lv_aload_n hx hb dX1_make_50 rfl (lv_at hl 0 rfl) ?_
      refine lv_dup hx hb dX1_make_51 rfl ?_
      refine va_get (v := .int (ym S)) hx hb hts hinX1 hown hK hP 0 rfl rfl 4 (by decide) hf43 (fun _ h9 => h9) rfl dX1_make_52 ?_
      refine lv_iconst (v := 1) hx hb dX1_make_55 (by decide) ?_
      refine lv_iadd hx hb dX1_make_56 ?_
      refine va_put (v := .int ((ym S) + 1)) (ty := .int) hx hb hts hinX1 tyX1 tyX1_ok nmX1 hown hK hP hD hS 0 rfl rfl 4 (by decide) hf43 (fun _ h9 => h9) rfl (by decide +kernel) rfl rfl (Nat.le_of_ble_eq_true rfl) dX1_make_57 (fun H locs hP hD hS => ?_)
      have hP : va_P D vwCl (wM q cA (yk (yd S) (yn S + 1) ((ym S) + 1) (yh S) (yg S) (yt S) (yth S) (upd (yse S) (yn S) x) (upd (ynu S) (yn S) (ym S)) (yes S) (yel S) (ygi S))) H := hP
      have hD : va_D _ (wM q cA (yk (yd S) (yn S + 1) ((ym S) + 1) (yh S) (yg S) (yt S) (yth S) (upd (yse S) (yn S) x) (upd (ynu S) (yn S) (ym S)) (yes S) (yel S) (ygi S))) := hD
      refine lv_aload_n hx hb dX1_make_60 rfl (lv_at hl 0 rfl) ?_
      refine va_get (v := .int ((ym S) + 1)) hx hb hts hinX1 hown hK hP 0 rfl rfl 4 (by decide) hf43 (fun _ h9 => h9) rfl dX1_make_61 ?_
      refine lv_iconst (v := 1) hx hb dX1_make_64 (by decide) ?_
      refine lv_isub hx hb dX1_make_65 ?_
      refine lv_topi (fun z1 ez1 => ?_)
      obtain rfl : z1 = ym S := ez1.trans (Int32.add_sub_cancel _ _)
      have hpo : (ym S, (yk (yd S) (yn S + 1) ((ym S) + 1) (yh S) (yg S) (yt S) (yth S) (upd (yse S) (yn S) x) (upd (ynu S) (yn S) (ym S)) (yes S) (yel S) (ygi S))) = (if m_taut x = true ∨ ¬ q_find (vML S) x = none then ((-1 : Int32), S) else (ym S, (yk (yd S) (yn S + 1) (ym S + 1) (yh S) (yg S) (yt S) (yth S) (upd (yse S) (yn S) x) (upd (ynu S) (yn S) (ym S)) (yes S) (yel S) (ygi S)))) := by rw [if_neg (fun z => z.elim (fun z => by rw [h1] at z; exact absurd z (by decide)) (fun z => z h2))]
      exact W.iret (v := (ym S)) hx hb hr (fun t ht hW => ⟨⟨(ym S), (yk (yd S) (yn S + 1) ((ym S) + 1) (yh S) (yg S) (yt S) (yth S) (upd (yse S) (yn S) x) (upd (ynu S) (yn S) (ym S)) (yes S) (yel S) (ygi S)), rfl, hpo, by rw [ht]; exact hP, va_K.moved hW.alike hK, hD⟩, hS.F ht⟩) hS.2.2 dX1_make_66
    · have h2 : ¬ q_find (vML S) x = none := fun z => hc12 ((q_find_lt0 (by rw [vML_len]; omega)).mpr z)
      refine lv_iconst (v := (-1)) hx hb dX1_make_15 (by decide) ?_
      have hpo : ((-1), S) = (if m_taut x = true ∨ ¬ q_find (vML S) x = none then ((-1 : Int32), S) else (ym S, (yk (yd S) (yn S + 1) (ym S + 1) (yh S) (yg S) (yt S) (yth S) (upd (yse S) (yn S) x) (upd (ynu S) (yn S) (ym S)) (yes S) (yel S) (ygi S)))) := by rw [if_pos (Or.inr h2)]
      exact W.iret (v := (-1)) hx hb hr (fun t ht hW => ⟨⟨(-1), S, rfl, hpo, by rw [ht]; exact hP, va_K.moved hW.alike hK, hD⟩, hS.F ht⟩) hS.2.2 dX1_make_16

set_option maxHeartbeats 4000000 in
set_option maxRecDepth 100000 in
theorem kX1_push (l : Launch) (D : va_G) (q : Nat → Nat) (cA : ClassId) (S : MS) (hok : okM S) (x y : Int32) (sz : Nat) : xw_Mi l yX1_push wsX1_push ({ frames := 0, cells := 0, slots := 0, locals := 0 }) D vwCl [(cA, .int)] [.ref (q 0), .int x, .int y] (wM q cA S) sz (fun (r : Int32) (u : MS) => (r, u) = (if yh S = 200 then ((0 : Int32), S) else (1, (yk (yd S) (yn S) (ym S) (yh S + 1) (yg S) (yt S) (yth S) (yse S) (ynu S) (upd (yes S) (yh S) x) (upd (yel S) (yh S) y) (ygi S))))) (wM q cA) := by
  refine Met.ofW (cc := cX1_push) (maxL := 3) (ret := (some .boolean)) (by decide) rfl ?_
  intro p e s m args below meth c s₁ B hml hv
  obtain ⟨rfl, hsz, hP, hK, hD0⟩ := hv
  subst hsz
  have hD := hD0.self (sz := s.heap.size)
  have hA : ∀ z, s.heap.size ≤ z → va_A (wM q cA S) s.heap.size z := fun z h => Or.inr h
  have hS : va_S (va_A (wM q cA S) s.heap.size) s.heap s.heap [] := va_S.rf
  obtain ⟨hn40, hh200, hg100⟩ := id hok
  have hx := B.exec
  have hb := B.bytes
  have hr := B.returns
  have hts := atoms_spec (ws := wsX1_push) B.pre
  have hown : s.vm.findClass RX1 = some m.cls := findClass_of_methodNamed B.named
  have hlocks := B.notSynchronized
  have hinX1 : ∀ w ∈ u_ws RX1 TX1 12, w ∈ wsX1_push := fun w h => List.mem_cons_of_mem _ (bw_X1 w h)
  have hf16 := hts _ (List.mem_cons_of_mem _ bw_264)
  have hf19 := hts _ (List.mem_cons_of_mem _ bw_265)
  have hf65 := hts _ (List.mem_cons_of_mem _ bw_263)
  have hl := lv_entry ([.ref (q 0), .int x, .int y]) (n := 3) (Nat.le_of_ble_eq_true rfl)
  rw [lg_entry_eq]
  generalize (lg_sl ([.ref (q 0), .int x, .int y]) ++ List.replicate (3 - (lg_sl ([.ref (q 0), .int x, .int y])).length) Slot.unset).toArray = ls at hl ⊢
  have hl : lv_has ls 3 [(0, .ref (q 0)), (1, .int x), (2, .int y)] := hl
  refine lv_aload_n hx hb dX1_push_0 rfl (lv_at hl 0 rfl) ?_
  refine va_get (v := .int (nI (yh S))) hx hb hts hinX1 hown hK hP 0 rfl rfl 5 (by decide) hf65 (fun _ h9 => h9) rfl dX1_push_1 ?_
  refine lv_sipush (v := 200) hx hb dX1_push_4 (by decide) ?_
  refine lv_icmp_ne (tgt := 12) hx hb dX1_push_7 (by decide) (fun hc7 => ?_) (fun hc7 => ?_)
  · have h1 : ¬ yh S = 200 := fun z => hc7 (by rw [z]; rfl)
    refine lv_aload_n hx hb dX1_push_12 rfl (lv_at hl 0 rfl) ?_
    refine va_get (v := .ref (q 3)) hx hb hts hinX1 hown hK hP 0 rfl rfl 6 (by decide) hf16 (fun _ h9 => h9) rfl dX1_push_13 ?_
    refine lv_aload_n hx hb dX1_push_16 rfl (lv_at hl 0 rfl) ?_
    refine va_get (v := .int (nI (yh S))) hx hb hts hinX1 hown hK hP 0 rfl rfl 5 (by decide) hf65 (fun _ h9 => h9) rfl dX1_push_17 ?_
    refine lv_iload_n hx hb dX1_push_20 rfl (lv_at hl 1 rfl) ?_
    refine xa_st hx hb hK hP hD hS 3 0 rfl rfl (yh S) (by omega) (by first | decide | assumption) dX1_push_21 (fun H locs hP hD hS => ?_)
    have hP : va_P D vwCl (wM q cA (yk (yd S) (yn S) (ym S) (yh S) (yg S) (yt S) (yth S) (yse S) (ynu S) (upd (yes S) (yh S) x) (yel S) (ygi S))) H := hP
    have hD : va_D _ (wM q cA (yk (yd S) (yn S) (ym S) (yh S) (yg S) (yt S) (yth S) (yse S) (ynu S) (upd (yes S) (yh S) x) (yel S) (ygi S))) := hD
    refine lv_aload_n hx hb dX1_push_22 rfl (lv_at hl 0 rfl) ?_
    refine va_get (v := .ref (q 4)) hx hb hts hinX1 hown hK hP 0 rfl rfl 7 (by decide) hf19 (fun _ h9 => h9) rfl dX1_push_23 ?_
    refine lv_aload_n hx hb dX1_push_26 rfl (lv_at hl 0 rfl) ?_
    refine va_get (v := .int (nI (yh S))) hx hb hts hinX1 hown hK hP 0 rfl rfl 5 (by decide) hf65 (fun _ h9 => h9) rfl dX1_push_27 ?_
    refine lv_iload_n hx hb dX1_push_30 rfl (lv_at hl 2 rfl) ?_
    refine xa_st hx hb hK hP hD hS 4 0 rfl rfl (yh S) (by omega) (by first | decide | assumption) dX1_push_31 (fun H locs hP hD hS => ?_)
    have hP : va_P D vwCl (wM q cA (yk (yd S) (yn S) (ym S) (yh S) (yg S) (yt S) (yth S) (yse S) (ynu S) (upd (yes S) (yh S) x) (upd (yel S) (yh S) y) (ygi S))) H := hP
    have hD : va_D _ (wM q cA (yk (yd S) (yn S) (ym S) (yh S) (yg S) (yt S) (yth S) (yse S) (ynu S) (upd (yes S) (yh S) x) (upd (yel S) (yh S) y) (ygi S))) := hD
    refine lv_aload_n hx hb dX1_push_32 rfl (lv_at hl 0 rfl) ?_
    refine lv_dup hx hb dX1_push_33 rfl ?_
    refine va_get (v := .int (nI (yh S))) hx hb hts hinX1 hown hK hP 0 rfl rfl 5 (by decide) hf65 (fun _ h9 => h9) rfl dX1_push_34 ?_
    refine lv_iconst (v := 1) hx hb dX1_push_37 (by decide) ?_
    refine xi_inc hx hb dX1_push_38 ?_
    refine va_put (v := .int (nI (yh S + 1))) (ty := .int) hx hb hts hinX1 tyX1 tyX1_ok nmX1 hown hK hP hD hS 0 rfl rfl 5 (by decide) hf65 (fun _ h9 => h9) rfl (by decide +kernel) rfl rfl (Nat.le_of_ble_eq_true rfl) dX1_push_39 (fun H locs hP hD hS => ?_)
    have hP : va_P D vwCl (wM q cA (yk (yd S) (yn S) (ym S) (yh S + 1) (yg S) (yt S) (yth S) (yse S) (ynu S) (upd (yes S) (yh S) x) (upd (yel S) (yh S) y) (ygi S))) H := hP
    have hD : va_D _ (wM q cA (yk (yd S) (yn S) (ym S) (yh S + 1) (yg S) (yt S) (yth S) (yse S) (ynu S) (upd (yes S) (yh S) x) (upd (yel S) (yh S) y) (ygi S))) := hD
    refine lv_iconst (v := 1) hx hb dX1_push_42 (by decide) ?_
    have hpo : (1, (yk (yd S) (yn S) (ym S) (yh S + 1) (yg S) (yt S) (yth S) (yse S) (ynu S) (upd (yes S) (yh S) x) (upd (yel S) (yh S) y) (ygi S))) = (if yh S = 200 then ((0 : Int32), S) else (1, (yk (yd S) (yn S) (ym S) (yh S + 1) (yg S) (yt S) (yth S) (yse S) (ynu S) (upd (yes S) (yh S) x) (upd (yel S) (yh S) y) (ygi S)))) := by rw [if_neg h1]
    exact W.zret (v := 1) hx hb hr (by rfl) (fun t ht hW => ⟨⟨1, (yk (yd S) (yn S) (ym S) (yh S + 1) (yg S) (yt S) (yth S) (yse S) (ynu S) (upd (yes S) (yh S) x) (upd (yel S) (yh S) y) (ygi S)), rfl, hpo, by rw [ht]; exact hP, va_K.moved hW.alike hK, hD⟩, hS.F ht⟩) hS.2.2 dX1_push_43
  · have h1 : yh S = 200 := (nI_eq (b := 200) (by omega) (by decide)).mp hc7
    refine lv_iconst (v := 0) hx hb dX1_push_10 (by decide) ?_
    have hpo : (0, S) = (if yh S = 200 then ((0 : Int32), S) else (1, (yk (yd S) (yn S) (ym S) (yh S + 1) (yg S) (yt S) (yth S) (yse S) (ynu S) (upd (yes S) (yh S) x) (upd (yel S) (yh S) y) (ygi S)))) := by rw [if_pos h1]
    exact W.zret (v := 0) hx hb hr (by rfl) (fun t ht hW => ⟨⟨0, S, rfl, hpo, by rw [ht]; exact hP, va_K.moved hW.alike hK, hD⟩, hS.F ht⟩) hS.2.2 dX1_push_11

set_option maxHeartbeats 4000000 in
set_option maxRecDepth 100000 in
theorem kX1_take (l : Launch) (D : va_G) (q : Nat → Nat) (cA : ClassId) (S : MS) (hok : okM S) (k : Nat) (b : Int32) (hk9 : k < yn S) (sz : Nat) : xw_Mv l yX1_take wsX1_take ({ frames := 1, cells := 0, slots := 0, locals := 22 }) D vwCl [(cA, .int)] [.ref (q 0), .int (nI k), .int b] (wM q cA S) sz (fun u : MS => y_same S u ∧ vML u = q_take (vML S) k b) (wM q cA) := by
  refine Met.ofW (cc := cX1_take) (maxL := 5) (ret := none) (by decide) rfl ?_
  intro p e s m args below meth c s₁ B hml hv
  obtain ⟨rfl, hsz, hP, hK, hD0⟩ := hv
  subst hsz
  have hD := hD0.self (sz := s.heap.size)
  have hA : ∀ z, s.heap.size ≤ z → va_A (wM q cA S) s.heap.size z := fun z h => Or.inr h
  have hS : va_S (va_A (wM q cA S) s.heap.size) s.heap s.heap [] := va_S.rf
  obtain ⟨hn40, hh200, hg100⟩ := id hok
  have hx := B.exec
  have hb := B.bytes
  have hr := B.returns
  have hts := atoms_spec (ws := wsX1_take) B.pre
  have hown : s.vm.findClass RX1 = some m.cls := findClass_of_methodNamed B.named
  have hlocks := B.notSynchronized
  have hinX1 : ∀ w ∈ u_ws RX1 TX1 12, w ∈ wsX1_take := fun w h => List.mem_cons_of_mem _ (bw_X1 w h)
  have hf7 := hts _ (List.mem_cons_of_mem _ bw_260)
  have hl := lv_entry ([.ref (q 0), .int (nI k), .int b]) (n := 5) (Nat.le_of_ble_eq_true rfl)
  rw [lg_entry_eq]
  generalize (lg_sl ([.ref (q 0), .int (nI k), .int b]) ++ List.replicate (5 - (lg_sl ([.ref (q 0), .int (nI k), .int b])).length) Slot.unset).toArray = ls at hl ⊢
  have hl : lv_has ls 5 [(0, .ref (q 0)), (1, .int (nI k)), (2, .int b)] := hl
  refine lv_aload_n hx hb dX1_take_0 rfl (lv_at hl 0 rfl) ?_
  refine va_get (v := .ref (q 1)) hx hb hts hinX1 hown hK hP 0 rfl rfl 2 (by decide) hf7 (fun _ h9 => h9) rfl dX1_take_1 ?_
  refine lv_iload_n hx hb dX1_take_4 rfl (lv_at hl 1 rfl) ?_
  refine xa_ld hx hb hK hP 1 0 rfl rfl k (by omega) (by first | decide | assumption) dX1_take_5 ?_
  refine lv_iload_n hx hb dX1_take_6 rfl (lv_at hl 2 rfl) ?_
  refine lv_iconst (v := (-1)) hx hb dX1_take_7 (by decide) ?_
  refine xi_not hx hb dX1_take_8 ?_
  refine lv_iand hx hb dX1_take_9 ?_
  refine lv_topi (fun w9 ew9 => ?_)
  refine lv_istore_n (lv' := [(3, .int w9), (0, .ref (q 0)), (1, .int (nI k)), (2, .int b)]) hx hb dX1_take_10 rfl hl (by decide) rfl (fun ls hl => ?_)
  refine lv_aload_n hx hb dX1_take_11 rfl (lv_at hl 1 rfl) ?_
  refine lv_iload_n hx hb dX1_take_12 rfl (lv_at hl 0 rfl) ?_
  refine xc_rv (As := [.int w9]) (rest := []) ⟨hx, hb, hml, hown, hts⟩ (kX1_find l D q cA S hok w9) (cwV 1 hts (gd_V bw_306 bw_307 bw_434 bw_2 bw_308) rfl rfl rfl (by decide +kernel) ⟨Nat.le_of_ble_eq_true rfl, Nat.le_of_ble_eq_true rfl⟩) (va_recv (ci := 1) (q0 := 0) hK hP rfl rfl) hP hK rfl hl.1 rfl (Nat.le_of_ble_eq_true rfl) dX1_take_13 ⟨Nat.zero_le _, Nat.zero_le _⟩ ?_
  refine lv_istore (lv' := [(4, .int (q_idx (q_find (vML S) w9))), (3, .int w9), (0, .ref (q 0)), (1, .int (nI k)), (2, .int b)]) hx hb dX1_take_16 hl (by decide) rfl (fun ls hl => ?_)
  refine lv_aload_n hx hb dX1_take_18 rfl (lv_at hl 2 rfl) ?_
  refine va_get (v := .ref (q 1)) hx hb hts hinX1 hown hK hP 0 rfl rfl 2 (by decide) hf7 (fun _ h9 => h9) rfl dX1_take_19 ?_
  refine lv_iload_n hx hb dX1_take_22 rfl (lv_at hl 3 rfl) ?_
  refine lv_iload_n hx hb dX1_take_23 rfl (lv_at hl 1 rfl) ?_
  refine xa_st hx hb hK hP hD hS 1 0 rfl rfl k (by omega) (by first | decide | assumption) dX1_take_24 (fun H locs hP hD hS => ?_)
  have hP : va_P D vwCl (wM q cA (yk (yd S) (yn S) (ym S) (yh S) (yg S) (yt S) (yth S) (upd (yse S) k w9) (ynu S) (yes S) (yel S) (ygi S))) H := hP
  have hD : va_D _ (wM q cA (yk (yd S) (yn S) (ym S) (yh S) (yg S) (yt S) (yth S) (upd (yse S) k w9) (ynu S) (yes S) (yel S) (ygi S))) := hD
  refine lv_iload hx hb dX1_take_25 (lv_at hl 0 rfl) ?_
  refine lv_if_lt (tgt := 46) hx hb dX1_take_27 (by decide) (fun hc27 => ?_) (fun hc27 => ?_)
  · have hpo : y_same S (yk (yd S) (yn S) (ym S) (yh S) (yg S) (yt S) (yth S) (upd (yse S) k w9) (ynu S) (yes S) (yel S) (ygi S)) ∧ vML (yk (yd S) (yn S) (ym S) (yh S) (yg S) (yt S) (yth S) (upd (yse S) k w9) (ynu S) (yes S) (yel S) (ygi S)) = q_take (vML S) k b := ⟨rfl, by
      have h2 := (q_find_lt0 (by rw [vML_len]; omega)).mp hc27
      unfold q_take
      rw [q_set_of hk9, q_num_of hk9, ← ew9, h2]
      exact st_cl (yse S) (ynu S) w9 hk9⟩
    exact W.vret hx hb hr (fun t ht hW => ⟨⟨(yk (yd S) (yn S) (ym S) (yh S) (yg S) (yt S) (yth S) (upd (yse S) k w9) (ynu S) (yes S) (yel S) (ygi S)), rfl, hpo, by rw [ht]; exact hP, va_K.moved hW.alike hK, hD⟩, hS.F ht⟩) hS.2.2 dX1_take_46
  · obtain ⟨o, ho⟩ := some_of_ne (fun z => hc27 ((q_find_lt0 (by rw [vML_len]; omega)).mpr z))
    have ho2 : o < yn S := by
      have z := q_find_lt ho
      rw [vML_len] at z
      exact z
    have hl : lv_has ls 5 [(4, .int (nI o)), (3, .int w9), (0, .ref (q 0)), (1, .int (nI k)), (2, .int b)] := by rw [ho] at hl; exact hl
    refine lv_aload_n hx hb dX1_take_30 rfl (lv_at hl 2 rfl) ?_
    refine lv_iload hx hb dX1_take_31 (lv_at hl 0 rfl) ?_
    refine lv_iload_n hx hb dX1_take_33 rfl (lv_at hl 3 rfl) ?_
    refine lv_icmp_le (tgt := 42) hx hb dX1_take_34 (by decide) (fun hc34 => ?_) (fun hc34 => ?_)
    · have hle : o ≤ k := (nI_leI (by omega) (by omega)).mp hc34
      have hmx : max k o = k := Nat.max_eq_left hle
      refine lv_iload_n hx hb dX1_take_42 rfl (lv_at hl 3 rfl) ?_
      refine xc_wv (As := [.int (nI k)]) (rest := []) ⟨hx, hb, hml, hown, hts⟩ (kX1_remove l D q cA (yk (yd S) (yn S) (ym S) (yh S) (yg S) (yt S) (yth S) (upd (yse S) k w9) (ynu S) (yes S) (yel S) (ygi S)) ⟨hn40, hh200, hg100⟩ k (show k < yn S from by omega) _) (cwV 1 hts (gd_V bw_325 bw_326 bw_438 bw_2 bw_327) rfl rfl rfl (by decide +kernel) ⟨Nat.le_of_ble_eq_true rfl, Nat.le_of_ble_eq_true rfl⟩) (va_recv (ci := 1) (q0 := 0) hK hP rfl rfl) hP hK hD hS hA rfl hl.1 rfl (Nat.le_of_ble_eq_true rfl) dX1_take_43 ⟨Nat.zero_le _, Nat.zero_le _⟩ (fun u1 H locs hu1 hP hD hS => ?_)
      have hpo : y_same S u1 ∧ vML u1 = q_take (vML S) k b := ⟨by rw [hu1]; rfl, by
        unfold q_take
        rw [q_set_of hk9, q_num_of hk9, ← ew9, ho, hu1]
        show _ = (List.set (vML S) k (w9, ynu S k)).eraseIdx (max k o)
        rw [hmx]
        exact (rmv_cl (show k < yn S from by omega) _ _).trans (by rw [st_cl _ _ _ hk9])⟩
      exact W.vret hx hb hr (fun t ht hW => ⟨⟨u1, rfl, hpo, by rw [ht]; exact hP, va_K.moved hW.alike hK, hD⟩, hS.F ht⟩) hS.2.2 dX1_take_46
    · have hle : ¬ o ≤ k := fun z => hc34 ((nI_leI (by omega) (by omega)).mpr z)
      have hmx : max k o = o := Nat.max_eq_right (by omega)
      refine lv_iload hx hb dX1_take_37 (lv_at hl 0 rfl) ?_
      refine lv_goto (tgt := 43) hx hb dX1_take_39 (by decide) ?_
      refine xc_wv (As := [.int (nI o)]) (rest := []) ⟨hx, hb, hml, hown, hts⟩ (kX1_remove l D q cA (yk (yd S) (yn S) (ym S) (yh S) (yg S) (yt S) (yth S) (upd (yse S) k w9) (ynu S) (yes S) (yel S) (ygi S)) ⟨hn40, hh200, hg100⟩ o (show o < yn S from by omega) _) (cwV 1 hts (gd_V bw_325 bw_326 bw_438 bw_2 bw_327) rfl rfl rfl (by decide +kernel) ⟨Nat.le_of_ble_eq_true rfl, Nat.le_of_ble_eq_true rfl⟩) (va_recv (ci := 1) (q0 := 0) hK hP rfl rfl) hP hK hD hS hA rfl hl.1 rfl (Nat.le_of_ble_eq_true rfl) dX1_take_43 ⟨Nat.zero_le _, Nat.zero_le _⟩ (fun u3 H locs hu3 hP hD hS => ?_)
      have hpo : y_same S u3 ∧ vML u3 = q_take (vML S) k b := ⟨by rw [hu3]; rfl, by
        unfold q_take
        rw [q_set_of hk9, q_num_of hk9, ← ew9, ho, hu3]
        show _ = (List.set (vML S) k (w9, ynu S k)).eraseIdx (max k o)
        rw [hmx]
        exact (rmv_cl (show o < yn S from by omega) _ _).trans (by rw [st_cl _ _ _ hk9])⟩
      exact W.vret hx hb hr (fun t ht hW => ⟨⟨u3, rfl, hpo, by rw [ht]; exact hP, va_K.moved hW.alike hK, hD⟩, hS.F ht⟩) hS.2.2 dX1_take_46

set_option maxHeartbeats 4000000 in
set_option maxRecDepth 100000 in
theorem kX1_thrown (l : Launch) (D : va_G) (q : Nat → Nat) (cA : ClassId) (S : MS) (hok : okM S) : xr_M l yX1_thrown wsX1_thrown ({ frames := 0, cells := 0, slots := 0, locals := 0 }) D vwCl [(cA, .int)] [.ref (q 0)] (wM q cA S) (yth S) := by
  refine Met.ofW (cc := cX1_thrown) (maxL := 1) (ret := (some .int)) (by decide) rfl ?_
  intro p e s m args below meth c s₁ B hml hv
  obtain ⟨rfl, hP, hK⟩ := hv
  obtain ⟨hn40, hh200, hg100⟩ := id hok
  have hx := B.exec
  have hb := B.bytes
  have hr := B.returns
  have hts := atoms_spec (ws := wsX1_thrown) B.pre
  have hown : s.vm.findClass RX1 = some m.cls := findClass_of_methodNamed B.named
  have hlocks := B.notSynchronized
  have hinX1 : ∀ w ∈ u_ws RX1 TX1 12, w ∈ wsX1_thrown := fun w h => List.mem_cons_of_mem _ (bw_X1 w h)
  have hf25 := hts _ (List.mem_cons_of_mem _ bw_269)
  have hl := lv_entry ([.ref (q 0)]) (n := 1) (Nat.le_of_ble_eq_true rfl)
  rw [lg_entry_eq]
  generalize (lg_sl ([.ref (q 0)]) ++ List.replicate (1 - (lg_sl ([.ref (q 0)])).length) Slot.unset).toArray = ls at hl ⊢
  have hl : lv_has ls 1 [(0, .ref (q 0))] := hl
  refine lv_aload_n hx hb dX1_thrown_0 rfl (lv_at hl 0 rfl) ?_
  refine va_get (v := .int (yth S)) hx hb hts hinX1 hown hK hP 0 rfl rfl 11 (by decide) hf25 (fun _ h9 => h9) rfl dX1_thrown_1 ?_
  exact W.iret (v := (yth S)) hx hb hr (fun t ht hW => ⟨rfl, ht⟩) (fun _ h => nomatch h) dX1_thrown_4

set_option maxHeartbeats 4000000 in
set_option maxRecDepth 100000 in
theorem kX1_clauses (l : Launch) (D : va_G) (q : Nat → Nat) (cA : ClassId) (S : MS) (hok : okM S)  (sz : Nat) : xw_Mi l yX1_clauses wsX1_clauses ({ frames := 0, cells := 0, slots := 0, locals := 0 }) D vwCl [(cA, .int)] [.ref (q 0)] (wM q cA S) sz (fun (r : Int32) (u : MS) => r = nI (yn S) ∧ u = (yk (yd S) (yn S) (ym S) (yh S) (yg S) (yt S) 0 (yse S) (ynu S) (yes S) (yel S) (ygi S))) (wM q cA) := by
  refine Met.ofW (cc := cX1_clauses) (maxL := 1) (ret := (some .int)) (by decide) rfl ?_
  intro p e s m args below meth c s₁ B hml hv
  obtain ⟨rfl, hsz, hP, hK, hD0⟩ := hv
  subst hsz
  have hD := hD0.self (sz := s.heap.size)
  have hA : ∀ z, s.heap.size ≤ z → va_A (wM q cA S) s.heap.size z := fun z h => Or.inr h
  have hS : va_S (va_A (wM q cA S) s.heap.size) s.heap s.heap [] := va_S.rf
  obtain ⟨hn40, hh200, hg100⟩ := id hok
  have hx := B.exec
  have hb := B.bytes
  have hr := B.returns
  have hts := atoms_spec (ws := wsX1_clauses) B.pre
  have hown : s.vm.findClass RX1 = some m.cls := findClass_of_methodNamed B.named
  have hlocks := B.notSynchronized
  have hinX1 : ∀ w ∈ u_ws RX1 TX1 12, w ∈ wsX1_clauses := fun w h => List.mem_cons_of_mem _ (bw_X1 w h)
  have hf25 := hts _ (List.mem_cons_of_mem _ bw_269)
  have hf33 := hts _ (List.mem_cons_of_mem _ bw_259)
  have hl := lv_entry ([.ref (q 0)]) (n := 1) (Nat.le_of_ble_eq_true rfl)
  rw [lg_entry_eq]
  generalize (lg_sl ([.ref (q 0)]) ++ List.replicate (1 - (lg_sl ([.ref (q 0)])).length) Slot.unset).toArray = ls at hl ⊢
  have hl : lv_has ls 1 [(0, .ref (q 0))] := hl
  refine lv_aload_n hx hb dX1_clauses_0 rfl (lv_at hl 0 rfl) ?_
  refine lv_iconst (v := 0) hx hb dX1_clauses_1 (by decide) ?_
  refine va_put (v := .int 0) (ty := .int) hx hb hts hinX1 tyX1 tyX1_ok nmX1 hown hK hP hD hS 0 rfl rfl 11 (by decide) hf25 (fun _ h9 => h9) rfl (by decide +kernel) rfl rfl (Nat.le_of_ble_eq_true rfl) dX1_clauses_2 (fun H locs hP hD hS => ?_)
  have hP : va_P D vwCl (wM q cA (yk (yd S) (yn S) (ym S) (yh S) (yg S) (yt S) 0 (yse S) (ynu S) (yes S) (yel S) (ygi S))) H := hP
  have hD : va_D _ (wM q cA (yk (yd S) (yn S) (ym S) (yh S) (yg S) (yt S) 0 (yse S) (ynu S) (yes S) (yel S) (ygi S))) := hD
  refine lv_aload_n hx hb dX1_clauses_5 rfl (lv_at hl 0 rfl) ?_
  refine va_get (v := .int (nI (yn S))) hx hb hts hinX1 hown hK hP 0 rfl rfl 1 (by decide) hf33 (fun _ h9 => h9) rfl dX1_clauses_6 ?_
  have hpo : nI (yn S) = nI (yn S) ∧ (yk (yd S) (yn S) (ym S) (yh S) (yg S) (yt S) 0 (yse S) (ynu S) (yes S) (yel S) (ygi S)) = (yk (yd S) (yn S) (ym S) (yh S) (yg S) (yt S) 0 (yse S) (ynu S) (yes S) (yel S) (ygi S)) := ⟨rfl, rfl⟩
  exact W.iret (v := (nI (yn S))) hx hb hr (fun t ht hW => ⟨⟨(nI (yn S)), (yk (yd S) (yn S) (ym S) (yh S) (yg S) (yt S) 0 (yse S) (ynu S) (yes S) (yel S) (ygi S)), rfl, hpo, by rw [ht]; exact hP, va_K.moved hW.alike hK, hD⟩, hS.F ht⟩) hS.2.2 dX1_clauses_9

set_option maxHeartbeats 4000000 in
set_option maxRecDepth 100000 in
theorem kX1_entries (l : Launch) (D : va_G) (q : Nat → Nat) (cA : ClassId) (S : MS) (hok : okM S)  (sz : Nat) : xw_Mi l yX1_entries wsX1_entries ({ frames := 0, cells := 0, slots := 0, locals := 0 }) D vwCl [(cA, .int)] [.ref (q 0)] (wM q cA S) sz (fun (r : Int32) (u : MS) => r = nI (yh S) ∧ u = (yk (yd S) (yn S) (ym S) (yh S) (yg S) (yt S) 0 (yse S) (ynu S) (yes S) (yel S) (ygi S))) (wM q cA) := by
  refine Met.ofW (cc := cX1_entries) (maxL := 1) (ret := (some .int)) (by decide) rfl ?_
  intro p e s m args below meth c s₁ B hml hv
  obtain ⟨rfl, hsz, hP, hK, hD0⟩ := hv
  subst hsz
  have hD := hD0.self (sz := s.heap.size)
  have hA : ∀ z, s.heap.size ≤ z → va_A (wM q cA S) s.heap.size z := fun z h => Or.inr h
  have hS : va_S (va_A (wM q cA S) s.heap.size) s.heap s.heap [] := va_S.rf
  obtain ⟨hn40, hh200, hg100⟩ := id hok
  have hx := B.exec
  have hb := B.bytes
  have hr := B.returns
  have hts := atoms_spec (ws := wsX1_entries) B.pre
  have hown : s.vm.findClass RX1 = some m.cls := findClass_of_methodNamed B.named
  have hlocks := B.notSynchronized
  have hinX1 : ∀ w ∈ u_ws RX1 TX1 12, w ∈ wsX1_entries := fun w h => List.mem_cons_of_mem _ (bw_X1 w h)
  have hf25 := hts _ (List.mem_cons_of_mem _ bw_269)
  have hf65 := hts _ (List.mem_cons_of_mem _ bw_263)
  have hl := lv_entry ([.ref (q 0)]) (n := 1) (Nat.le_of_ble_eq_true rfl)
  rw [lg_entry_eq]
  generalize (lg_sl ([.ref (q 0)]) ++ List.replicate (1 - (lg_sl ([.ref (q 0)])).length) Slot.unset).toArray = ls at hl ⊢
  have hl : lv_has ls 1 [(0, .ref (q 0))] := hl
  refine lv_aload_n hx hb dX1_entries_0 rfl (lv_at hl 0 rfl) ?_
  refine lv_iconst (v := 0) hx hb dX1_entries_1 (by decide) ?_
  refine va_put (v := .int 0) (ty := .int) hx hb hts hinX1 tyX1 tyX1_ok nmX1 hown hK hP hD hS 0 rfl rfl 11 (by decide) hf25 (fun _ h9 => h9) rfl (by decide +kernel) rfl rfl (Nat.le_of_ble_eq_true rfl) dX1_entries_2 (fun H locs hP hD hS => ?_)
  have hP : va_P D vwCl (wM q cA (yk (yd S) (yn S) (ym S) (yh S) (yg S) (yt S) 0 (yse S) (ynu S) (yes S) (yel S) (ygi S))) H := hP
  have hD : va_D _ (wM q cA (yk (yd S) (yn S) (ym S) (yh S) (yg S) (yt S) 0 (yse S) (ynu S) (yes S) (yel S) (ygi S))) := hD
  refine lv_aload_n hx hb dX1_entries_5 rfl (lv_at hl 0 rfl) ?_
  refine va_get (v := .int (nI (yh S))) hx hb hts hinX1 hown hK hP 0 rfl rfl 5 (by decide) hf65 (fun _ h9 => h9) rfl dX1_entries_6 ?_
  have hpo : nI (yh S) = nI (yh S) ∧ (yk (yd S) (yn S) (ym S) (yh S) (yg S) (yt S) 0 (yse S) (ynu S) (yes S) (yel S) (ygi S)) = (yk (yd S) (yn S) (ym S) (yh S) (yg S) (yt S) 0 (yse S) (ynu S) (yes S) (yel S) (ygi S)) := ⟨rfl, rfl⟩
  exact W.iret (v := (nI (yh S))) hx hb hr (fun t ht hW => ⟨⟨(nI (yh S)), (yk (yd S) (yn S) (ym S) (yh S) (yg S) (yt S) 0 (yse S) (ynu S) (yes S) (yel S) (ygi S)), rfl, hpo, by rw [ht]; exact hP, va_K.moved hW.alike hK, hD⟩, hS.F ht⟩) hS.2.2 dX1_entries_9

set_option maxHeartbeats 4000000 in
set_option maxRecDepth 100000 in
theorem kX1_assignment (l : Launch) (D : va_G) (q : Nat → Nat) (cA : ClassId) (S : MS) (hok : okM S)  (sz : Nat) : xw_Mi l yX1_assignment wsX1_assignment ({ frames := 0, cells := 0, slots := 0, locals := 0 }) D vwCl [(cA, .int)] [.ref (q 0)] (wM q cA S) sz (fun (r : Int32) (u : MS) => r = yt S ∧ u = (yk (yd S) (yn S) (ym S) (yh S) (yg S) (yt S) 0 (yse S) (ynu S) (yes S) (yel S) (ygi S))) (wM q cA) := by
  refine Met.ofW (cc := cX1_assignment) (maxL := 1) (ret := (some .int)) (by decide) rfl ?_
  intro p e s m args below meth c s₁ B hml hv
  obtain ⟨rfl, hsz, hP, hK, hD0⟩ := hv
  subst hsz
  have hD := hD0.self (sz := s.heap.size)
  have hA : ∀ z, s.heap.size ≤ z → va_A (wM q cA S) s.heap.size z := fun z h => Or.inr h
  have hS : va_S (va_A (wM q cA S) s.heap.size) s.heap s.heap [] := va_S.rf
  obtain ⟨hn40, hh200, hg100⟩ := id hok
  have hx := B.exec
  have hb := B.bytes
  have hr := B.returns
  have hts := atoms_spec (ws := wsX1_assignment) B.pre
  have hown : s.vm.findClass RX1 = some m.cls := findClass_of_methodNamed B.named
  have hlocks := B.notSynchronized
  have hinX1 : ∀ w ∈ u_ws RX1 TX1 12, w ∈ wsX1_assignment := fun w h => List.mem_cons_of_mem _ (bw_X1 w h)
  have hf25 := hts _ (List.mem_cons_of_mem _ bw_269)
  have hf112 := hts _ (List.mem_cons_of_mem _ bw_268)
  have hl := lv_entry ([.ref (q 0)]) (n := 1) (Nat.le_of_ble_eq_true rfl)
  rw [lg_entry_eq]
  generalize (lg_sl ([.ref (q 0)]) ++ List.replicate (1 - (lg_sl ([.ref (q 0)])).length) Slot.unset).toArray = ls at hl ⊢
  have hl : lv_has ls 1 [(0, .ref (q 0))] := hl
  refine lv_aload_n hx hb dX1_assignment_0 rfl (lv_at hl 0 rfl) ?_
  refine lv_iconst (v := 0) hx hb dX1_assignment_1 (by decide) ?_
  refine va_put (v := .int 0) (ty := .int) hx hb hts hinX1 tyX1 tyX1_ok nmX1 hown hK hP hD hS 0 rfl rfl 11 (by decide) hf25 (fun _ h9 => h9) rfl (by decide +kernel) rfl rfl (Nat.le_of_ble_eq_true rfl) dX1_assignment_2 (fun H locs hP hD hS => ?_)
  have hP : va_P D vwCl (wM q cA (yk (yd S) (yn S) (ym S) (yh S) (yg S) (yt S) 0 (yse S) (ynu S) (yes S) (yel S) (ygi S))) H := hP
  have hD : va_D _ (wM q cA (yk (yd S) (yn S) (ym S) (yh S) (yg S) (yt S) 0 (yse S) (ynu S) (yes S) (yel S) (ygi S))) := hD
  refine lv_aload_n hx hb dX1_assignment_5 rfl (lv_at hl 0 rfl) ?_
  refine va_get (v := .int (yt S)) hx hb hts hinX1 hown hK hP 0 rfl rfl 10 (by decide) hf112 (fun _ h9 => h9) rfl dX1_assignment_6 ?_
  have hpo : yt S = yt S ∧ (yk (yd S) (yn S) (ym S) (yh S) (yg S) (yt S) 0 (yse S) (ynu S) (yes S) (yel S) (ygi S)) = (yk (yd S) (yn S) (ym S) (yh S) (yg S) (yt S) 0 (yse S) (ynu S) (yes S) (yel S) (ygi S)) := ⟨rfl, rfl⟩
  exact W.iret (v := (yt S)) hx hb hr (fun t ht hW => ⟨⟨(yt S), (yk (yd S) (yn S) (ym S) (yh S) (yg S) (yt S) 0 (yse S) (ynu S) (yes S) (yel S) (ygi S)), rfl, hpo, by rw [ht]; exact hP, va_K.moved hW.alike hK, hD⟩, hS.F ht⟩) hS.2.2 dX1_assignment_9
