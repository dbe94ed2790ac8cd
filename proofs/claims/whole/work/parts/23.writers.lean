/-! The class: methods that write. -/
set_option maxHeartbeats 4000000 in
set_option maxRecDepth 100000 in
theorem kX0_remove (l : Launch) (D : va_G) (q : Nat → Nat) (cA : ClassId) (S : XS) (hok : okX S) (k : Nat) (hk9 : k < xn S) (sz : Nat) : xw_Mv l yX0_remove wsX0_remove ({ frames := 0, cells := 0, slots := 0, locals := 0 }) D vwCl [(cA, .int)] [.ref (q 0), .int (nI k)] (wX q cA S) sz (fun u : XS => u = (xk (xd S) (xt S) (xn S - 1) (xm S) (xh S) (xg S) (rmv k (xn S - 1) (xse S)) (rmv k (xn S - 1) (xnu S)) (xes S) (xel S) (xgi S) (xre S))) (wX q cA) := by
  refine Met.ofW (cc := cX0_remove) (maxL := 3) (ret := none) (by decide) rfl ?_
  intro p e s m args below meth c s₁ B hml hv
  obtain ⟨rfl, hsz, hP, hK, hD0⟩ := hv
  subst hsz
  have hD := hD0.self (sz := s.heap.size)
  have hA : ∀ z, s.heap.size ≤ z → va_A (wX q cA S) s.heap.size z := fun z h => Or.inr h
  have hS : va_S (va_A (wX q cA S) s.heap.size) s.heap s.heap [] := va_S.rf
  obtain ⟨hn40, hh200, hg100⟩ := id hok
  have hx := B.exec
  have hb := B.bytes
  have hr := B.returns
  have hts := atoms_spec (ws := wsX0_remove) B.pre
  have hown : s.vm.findClass RX0 = some m.cls := findClass_of_methodNamed B.named
  have hlocks := B.notSynchronized
  have hinX0 : ∀ w ∈ u_ws RX0 TX0 12, w ∈ wsX0_remove := fun w h => List.mem_cons_of_mem _ (bw_X0 w h)
  have hf9 := hts _ (List.mem_cons_of_mem _ bw_21)
  have hf13 := hts _ (List.mem_cons_of_mem _ bw_22)
  have hf58 := hts _ (List.mem_cons_of_mem _ bw_23)
  have hl := lv_entry ([.ref (q 0), .int (nI k)]) (n := 3) (Nat.le_of_ble_eq_true rfl)
  rw [lg_entry_eq]
  generalize (lg_sl ([.ref (q 0), .int (nI k)]) ++ List.replicate (3 - (lg_sl ([.ref (q 0), .int (nI k)])).length) Slot.unset).toArray = ls at hl ⊢
  have hl : lv_has ls 3 [(0, .ref (q 0)), (1, .int (nI k))] := hl
  refine lv_aload_n hx hb dX0_remove_0 rfl (lv_at hl 0 rfl) ?_
  refine lv_dup hx hb dX0_remove_1 rfl ?_
  refine va_get (v := .int (nI (xn S))) hx hb hts hinX0 hown hK hP 0 rfl rfl 4 (by decide) hf58 (fun _ h9 => h9) rfl dX0_remove_2 ?_
  refine lv_iconst (v := 1) hx hb dX0_remove_5 (by decide) ?_
  refine xi_dec hx hb dX0_remove_6 ?_
  refine lv_topi (fun z1 ez1 => ?_)
  obtain rfl : z1 = nI (xn S - 1) := ez1.trans (nP_sub (by omega))
  refine va_put (v := .int (nI (xn S - 1))) (ty := .int) hx hb hts hinX0 tyX0 tyX0_ok nmX0 hown hK hP hD hS 0 rfl rfl 4 (by decide) hf58 (fun _ h9 => h9) rfl (by decide +kernel) rfl rfl (Nat.le_of_ble_eq_true rfl) dX0_remove_7 (fun H locs hP hD hS => ?_)
  have hP : va_P D vwCl (wX q cA (xk (xd S) (xt S) (xn S - 1) (xm S) (xh S) (xg S) (xse S) (xnu S) (xes S) (xel S) (xgi S) (xre S))) H := hP
  have hD : va_D _ (wX q cA (xk (xd S) (xt S) (xn S - 1) (xm S) (xh S) (xg S) (xse S) (xnu S) (xes S) (xel S) (xgi S) (xre S))) := hD
  refine lv_iload_n hx hb dX0_remove_10 rfl (lv_at hl 1 rfl) ?_
  refine lv_istore_n (lv' := [(2, .int (nI k)), (0, .ref (q 0)), (1, .int (nI k))]) hx hb dX0_remove_11 rfl hl (by decide) rfl (fun ls hl => ?_)
  refine wlw (σ := Nat) (fun (i : Nat) (H : Heap) (locs : List Loc) ls => lv_has ls 3 [(2, .int (nI i)), (0, .ref (q 0)), (1, .int (nI k))] ∧ va_P D vwCl (wX q cA (xk (xd S) (xt S) (xn S - 1) (xm S) (xh S) (xg S) (rmv k i (xse S)) (rmv k i (xnu S)) (xes S) (xel S) (xgi S) (xre S))) H ∧ va_D (va_A (wX q cA S) s.heap.size) (wX q cA (xk (xd S) (xt S) (xn S - 1) (xm S) (xh S) (xg S) (rmv k i (xse S)) (rmv k i (xnu S)) (xes S) (xel S) (xgi S) (xre S))) ∧ va_S (va_A (wX q cA S) s.heap.size) s.heap H locs ∧ k ≤ i ∧ i ≤ xn S - 1) (fun (i : Nat) => xn S - i) k ⟨lv_sub hl [0, 1, 2] rfl, (by rw [rmv_0, rmv_0]; exact hP), (by rw [rmv_0, rmv_0]; exact hD), hS, Nat.le_refl _, (by omega)⟩ ?_
  intro i H locs ls hI ih12
  obtain ⟨hl, hP, hD, hS, h1, h2⟩ := hI
  have hl : lv_has ls 3 [(2, .int (nI i)), (0, .ref (q 0)), (1, .int (nI k))] := hl
  refine lv_iload_n hx hb dX0_remove_12 rfl (lv_at hl 0 rfl) ?_
  refine lv_aload_n hx hb dX0_remove_13 rfl (lv_at hl 1 rfl) ?_
  refine va_get (v := .int (nI (xn S - 1))) hx hb hts hinX0 hown hK hP 0 rfl rfl 4 (by decide) hf58 (fun _ h9 => h9) rfl dX0_remove_14 ?_
  refine lv_icmp_ge (tgt := 54) hx hb dX0_remove_17 (by decide) (fun hc17 => ?_) (fun hc17 => ?_)
  · have hge : xn S - 1 ≤ i := (nI_leI (by omega) (by omega)).mp hc17
    have hpo : (xk (xd S) (xt S) (xn S - 1) (xm S) (xh S) (xg S) (rmv k i (xse S)) (rmv k i (xnu S)) (xes S) (xel S) (xgi S) (xre S)) = (xk (xd S) (xt S) (xn S - 1) (xm S) (xh S) (xg S) (rmv k (xn S - 1) (xse S)) (rmv k (xn S - 1) (xnu S)) (xes S) (xel S) (xgi S) (xre S)) := by rw [show i = xn S - 1 by omega]
    exact W.vret hx hb hr (fun t ht hW => ⟨⟨(xk (xd S) (xt S) (xn S - 1) (xm S) (xh S) (xg S) (rmv k i (xse S)) (rmv k i (xnu S)) (xes S) (xel S) (xgi S) (xre S)), rfl, hpo, by rw [ht]; exact hP, va_K.moved hW.alike hK, hD⟩, hS.F ht⟩) hS.2.2 dX0_remove_54
  · have hlt : i < xn S - 1 := Nat.lt_of_not_le (fun z => hc17 ((nI_leI (by omega) (by omega)).mpr z))
    refine lv_aload_n hx hb dX0_remove_20 rfl (lv_at hl 1 rfl) ?_
    refine va_get (v := .ref (q 1)) hx hb hts hinX0 hown hK hP 0 rfl rfl 2 (by decide) hf9 (fun _ h9 => h9) rfl dX0_remove_21 ?_
    refine lv_iload_n hx hb dX0_remove_24 rfl (lv_at hl 0 rfl) ?_
    refine lv_aload_n hx hb dX0_remove_25 rfl (lv_at hl 1 rfl) ?_
    refine va_get (v := .ref (q 1)) hx hb hts hinX0 hown hK hP 0 rfl rfl 2 (by decide) hf9 (fun _ h9 => h9) rfl dX0_remove_26 ?_
    refine lv_iload_n hx hb dX0_remove_29 rfl (lv_at hl 0 rfl) ?_
    refine lv_iconst (v := 1) hx hb dX0_remove_30 (by decide) ?_
    refine xi_inc hx hb dX0_remove_31 ?_
    refine xa_ld hx hb hK hP 1 0 rfl rfl (i + 1) (by omega) (by first | decide | assumption) dX0_remove_32 ?_
    refine xa_st hx hb hK hP hD hS 1 0 rfl rfl i (by omega) (by first | decide | assumption) dX0_remove_33 (fun H locs hP hD hS => ?_)
    have hP : va_P D vwCl (wX q cA (xk (xd S) (xt S) (xn S - 1) (xm S) (xh S) (xg S) (upd (rmv k i (xse S)) i ((rmv k i (xse S)) (i + 1))) (rmv k i (xnu S)) (xes S) (xel S) (xgi S) (xre S))) H := hP
    have hD : va_D _ (wX q cA (xk (xd S) (xt S) (xn S - 1) (xm S) (xh S) (xg S) (upd (rmv k i (xse S)) i ((rmv k i (xse S)) (i + 1))) (rmv k i (xnu S)) (xes S) (xel S) (xgi S) (xre S))) := hD
    refine lv_aload_n hx hb dX0_remove_34 rfl (lv_at hl 1 rfl) ?_
    refine va_get (v := .ref (q 2)) hx hb hts hinX0 hown hK hP 0 rfl rfl 3 (by decide) hf13 (fun _ h9 => h9) rfl dX0_remove_35 ?_
    refine lv_iload_n hx hb dX0_remove_38 rfl (lv_at hl 0 rfl) ?_
    refine lv_aload_n hx hb dX0_remove_39 rfl (lv_at hl 1 rfl) ?_
    refine va_get (v := .ref (q 2)) hx hb hts hinX0 hown hK hP 0 rfl rfl 3 (by decide) hf13 (fun _ h9 => h9) rfl dX0_remove_40 ?_
    refine lv_iload_n hx hb dX0_remove_43 rfl (lv_at hl 0 rfl) ?_
    refine lv_iconst (v := 1) hx hb dX0_remove_44 (by decide) ?_
    refine xi_inc hx hb dX0_remove_45 ?_
    refine xa_ld hx hb hK hP 2 0 rfl rfl (i + 1) (by omega) (by first | decide | assumption) dX0_remove_46 ?_
    refine xa_st hx hb hK hP hD hS 2 0 rfl rfl i (by omega) (by first | decide | assumption) dX0_remove_47 (fun H locs hP hD hS => ?_)
    have hP : va_P D vwCl (wX q cA (xk (xd S) (xt S) (xn S - 1) (xm S) (xh S) (xg S) (upd (rmv k i (xse S)) i ((rmv k i (xse S)) (i + 1))) (upd (rmv k i (xnu S)) i ((rmv k i (xnu S)) (i + 1))) (xes S) (xel S) (xgi S) (xre S))) H := hP
    have hD : va_D _ (wX q cA (xk (xd S) (xt S) (xn S - 1) (xm S) (xh S) (xg S) (upd (rmv k i (xse S)) i ((rmv k i (xse S)) (i + 1))) (upd (rmv k i (xnu S)) i ((rmv k i (xnu S)) (i + 1))) (xes S) (xel S) (xgi S) (xre S))) := hD
    refine lv_iinc (k := 0) (v := nI (i + 1)) (lv' := [(2, .int (nI (i + 1))), (0, .ref (q 0)), (1, .int (nI k))]) hx hb dX0_remove_48 hl rfl (ii_1 _) (by decide) rfl (fun ls hl => ?_)
    refine lv_goto (tgt := 12) hx hb dX0_remove_51 (by decide) ?_
    exact ih12 (i + 1) _ _ _ ⟨lv_sub hl [0, 1, 2] rfl, (by rw [← rmv_s h1 (xse S), ← rmv_s h1 (xnu S)]; exact hP), (by rw [← rmv_s h1 (xse S), ← rmv_s h1 (xnu S)]; exact hD), hS, (by omega), (by omega)⟩ (by omega)

set_option maxHeartbeats 4000000 in
set_option maxRecDepth 100000 in
theorem kX0_make (l : Launch) (D : va_G) (q : Nat → Nat) (cA : ClassId) (S : XS) (hok : okX S) (x : Int32) (hn9 : xn S < 40) (sz : Nat) : xw_Mi l yX0_make wsX0_make ({ frames := 0, cells := 0, slots := 0, locals := 0 }) D vwCl [(cA, .int)] [.ref (q 0), .int x] (wX q cA S) sz (fun (r : Int32) (u : XS) => r = xm S ∧ u = (xk (xd S) (xt S) (xn S + 1) (xm S + 1) (xh S) (xg S) (upd (xse S) (xn S) x) (upd (xnu S) (xn S) (xm S)) (xes S) (xel S) (xgi S) (xre S))) (wX q cA) := by
  refine Met.ofW (cc := cX0_make) (maxL := 3) (ret := (some .int)) (by decide) rfl ?_
  intro p e s m args below meth c s₁ B hml hv
  obtain ⟨rfl, hsz, hP, hK, hD0⟩ := hv
  subst hsz
  have hD := hD0.self (sz := s.heap.size)
  have hA : ∀ z, s.heap.size ≤ z → va_A (wX q cA S) s.heap.size z := fun z h => Or.inr h
  have hS : va_S (va_A (wX q cA S) s.heap.size) s.heap s.heap [] := va_S.rf
  obtain ⟨hn40, hh200, hg100⟩ := id hok
  have hx := B.exec
  have hb := B.bytes
  have hr := B.returns
  have hts := atoms_spec (ws := wsX0_make) B.pre
  have hown : s.vm.findClass RX0 = some m.cls := findClass_of_methodNamed B.named
  have hlocks := B.notSynchronized
  have hinX0 : ∀ w ∈ u_ws RX0 TX0 12, w ∈ wsX0_make := fun w h => List.mem_cons_of_mem _ (bw_X0 w h)
  have hf9 := hts _ (List.mem_cons_of_mem _ bw_21)
  have hf13 := hts _ (List.mem_cons_of_mem _ bw_22)
  have hf58 := hts _ (List.mem_cons_of_mem _ bw_23)
  have hf194 := hts _ (List.mem_cons_of_mem _ bw_24)
  have hl := lv_entry ([.ref (q 0), .int x]) (n := 3) (Nat.le_of_ble_eq_true rfl)
  rw [lg_entry_eq]
  generalize (lg_sl ([.ref (q 0), .int x]) ++ List.replicate (3 - (lg_sl ([.ref (q 0), .int x])).length) Slot.unset).toArray = ls at hl ⊢
  have hl : lv_has ls 3 [(0, .ref (q 0)), (1, .int x)] := hl
  refine lv_aload_n hx hb dX0_make_0 rfl (lv_at hl 0 rfl) ?_
  refine va_get (v := .int (xm S)) hx hb hts hinX0 hown hK hP 0 rfl rfl 5 (by decide) hf194 (fun _ h9 => h9) rfl dX0_make_1 ?_
  refine lv_istore_n (lv' := [(2, .int (xm S)), (0, .ref (q 0)), (1, .int x)]) hx hb dX0_make_4 rfl hl (by decide) rfl (fun ls hl => ?_)
  refine lv_aload_n hx hb dX0_make_5 rfl (lv_at hl 1 rfl) ?_
  refine va_get (v := .ref (q 1)) hx hb hts hinX0 hown hK hP 0 rfl rfl 2 (by decide) hf9 (fun _ h9 => h9) rfl dX0_make_6 ?_
  refine lv_aload_n hx hb dX0_make_9 rfl (lv_at hl 1 rfl) ?_
  refine va_get (v := .int (nI (xn S))) hx hb hts hinX0 hown hK hP 0 rfl rfl 4 (by decide) hf58 (fun _ h9 => h9) rfl dX0_make_10 ?_
  refine lv_iload_n hx hb dX0_make_13 rfl (lv_at hl 2 rfl) ?_
  refine xa_st hx hb hK hP hD hS 1 0 rfl rfl (xn S) (by omega) (by first | decide | assumption) dX0_make_14 (fun H locs hP hD hS => ?_)
  have hP : va_P D vwCl (wX q cA (xk (xd S) (xt S) (xn S) (xm S) (xh S) (xg S) (upd (xse S) (xn S) x) (xnu S) (xes S) (xel S) (xgi S) (xre S))) H := hP
  have hD : va_D _ (wX q cA (xk (xd S) (xt S) (xn S) (xm S) (xh S) (xg S) (upd (xse S) (xn S) x) (xnu S) (xes S) (xel S) (xgi S) (xre S))) := hD
  refine lv_aload_n hx hb dX0_make_15 rfl (lv_at hl 1 rfl) ?_
  refine va_get (v := .ref (q 2)) hx hb hts hinX0 hown hK hP 0 rfl rfl 3 (by decide) hf13 (fun _ h9 => h9) rfl dX0_make_16 ?_
  refine lv_aload_n hx hb dX0_make_19 rfl (lv_at hl 1 rfl) ?_
  refine va_get (v := .int (nI (xn S))) hx hb hts hinX0 hown hK hP 0 rfl rfl 4 (by decide) hf58 (fun _ h9 => h9) rfl dX0_make_20 ?_
  refine lv_iload_n hx hb dX0_make_23 rfl (lv_at hl 0 rfl) ?_
  refine xa_st hx hb hK hP hD hS 2 0 rfl rfl (xn S) (by omega) (by first | decide | assumption) dX0_make_24 (fun H locs hP hD hS => ?_)
  have hP : va_P D vwCl (wX q cA (xk (xd S) (xt S) (xn S) (xm S) (xh S) (xg S) (upd (xse S) (xn S) x) (upd (xnu S) (xn S) (xm S)) (xes S) (xel S) (xgi S) (xre S))) H := hP
  have hD : va_D _ (wX q cA (xk (xd S) (xt S) (xn S) (xm S) (xh S) (xg S) (upd (xse S) (xn S) x) (upd (xnu S) (xn S) (xm S)) (xes S) (xel S) (xgi S) (xre S))) := hD
  refine lv_aload_n hx hb dX0_make_25 rfl (lv_at hl 1 rfl) ?_
  refine lv_dup hx hb dX0_make_26 rfl ?_
  refine va_get (v := .int (nI (xn S))) hx hb hts hinX0 hown hK hP 0 rfl rfl 4 (by decide) hf58 (fun _ h9 => h9) rfl dX0_make_27 ?_
  refine lv_iconst (v := 1) hx hb dX0_make_30 (by decide) ?_
  refine xi_inc hx hb dX0_make_31 ?_
  refine va_put (v := .int (nI (xn S + 1))) (ty := .int) hx hb hts hinX0 tyX0 tyX0_ok nmX0 hown hK hP hD hS 0 rfl rfl 4 (by decide) hf58 (fun _ h9 => h9) rfl (by decide +kernel) rfl rfl (Nat.le_of_ble_eq_true rfl) dX0_make_32 (fun H locs hP hD hS => ?_)
  have hP : va_P D vwCl (wX q cA (xk (xd S) (xt S) (xn S + 1) (xm S) (xh S) (xg S) (upd (xse S) (xn S) x) (upd (xnu S) (xn S) (xm S)) (xes S) (xel S) (xgi S) (xre S))) H := hP
  have hD : va_D _ (wX q cA (xk (xd S) (xt S) (xn S + 1) (xm S) (xh S) (xg S) (upd (xse S) (xn S) x) (upd (xnu S) (xn S) (xm S)) (xes S) (xel S) (xgi S) (xre S))) := hD
  refine lv_aload_n hx hb dX0_make_35 rfl (lv_at hl 1 rfl) ?_
  refine lv_dup hx hb dX0_make_36 rfl ?_
  refine va_get (v := .int (xm S)) hx hb hts hinX0 hown hK hP 0 rfl rfl 5 (by decide) hf194 (fun _ h9 => h9) rfl dX0_make_37 ?_
  refine lv_iconst (v := 1) hx hb dX0_make_40 (by decide) ?_
  refine lv_iadd hx hb dX0_make_41 ?_
  refine va_put (v := .int ((xm S) + 1)) (ty := .int) hx hb hts hinX0 tyX0 tyX0_ok nmX0 hown hK hP hD hS 0 rfl rfl 5 (by decide) hf194 (fun _ h9 => h9) rfl (by decide +kernel) rfl rfl (Nat.le_of_ble_eq_true rfl) dX0_make_42 (fun H locs hP hD hS => ?_)
  have hP : va_P D vwCl (wX q cA (xk (xd S) (xt S) (xn S + 1) ((xm S) + 1) (xh S) (xg S) (upd (xse S) (xn S) x) (upd (xnu S) (xn S) (xm S)) (xes S) (xel S) (xgi S) (xre S))) H := hP
  have hD : va_D _ (wX q cA (xk (xd S) (xt S) (xn S + 1) ((xm S) + 1) (xh S) (xg S) (upd (xse S) (xn S) x) (upd (xnu S) (xn S) (xm S)) (xes S) (xel S) (xgi S) (xre S))) := hD
  refine lv_iload_n hx hb dX0_make_45 rfl (lv_at hl 0 rfl) ?_
  have hpo : xm S = xm S ∧ (xk (xd S) (xt S) (xn S + 1) ((xm S) + 1) (xh S) (xg S) (upd (xse S) (xn S) x) (upd (xnu S) (xn S) (xm S)) (xes S) (xel S) (xgi S) (xre S)) = (xk (xd S) (xt S) (xn S + 1) (xm S + 1) (xh S) (xg S) (upd (xse S) (xn S) x) (upd (xnu S) (xn S) (xm S)) (xes S) (xel S) (xgi S) (xre S)) := ⟨rfl, rfl⟩
  exact W.iret (v := (xm S)) hx hb hr (fun t ht hW => ⟨⟨(xm S), (xk (xd S) (xt S) (xn S + 1) ((xm S) + 1) (xh S) (xg S) (upd (xse S) (xn S) x) (upd (xnu S) (xn S) (xm S)) (xes S) (xel S) (xgi S) (xre S)), rfl, hpo, by rw [ht]; exact hP, va_K.moved hW.alike hK, hD⟩, hS.F ht⟩) hS.2.2 dX0_make_46

set_option maxHeartbeats 4000000 in
set_option maxRecDepth 100000 in
theorem kX0_push (l : Launch) (D : va_G) (q : Nat → Nat) (cA : ClassId) (S : XS) (hok : okX S) (x y : Int32) (hh9 : xh S < 200) (sz : Nat) : xw_Mv l yX0_push wsX0_push ({ frames := 0, cells := 0, slots := 0, locals := 0 }) D vwCl [(cA, .int)] [.ref (q 0), .int x, .int y] (wX q cA S) sz (fun u : XS => u = (xk (xd S) (xt S) (xn S) (xm S) (xh S + 1) (xg S) (xse S) (xnu S) (upd (xes S) (xh S) x) (upd (xel S) (xh S) y) (xgi S) (xre S))) (wX q cA) := by
  refine Met.ofW (cc := cX0_push) (maxL := 3) (ret := none) (by decide) rfl ?_
  intro p e s m args below meth c s₁ B hml hv
  obtain ⟨rfl, hsz, hP, hK, hD0⟩ := hv
  subst hsz
  have hD := hD0.self (sz := s.heap.size)
  have hA : ∀ z, s.heap.size ≤ z → va_A (wX q cA S) s.heap.size z := fun z h => Or.inr h
  have hS : va_S (va_A (wX q cA S) s.heap.size) s.heap s.heap [] := va_S.rf
  obtain ⟨hn40, hh200, hg100⟩ := id hok
  have hx := B.exec
  have hb := B.bytes
  have hr := B.returns
  have hts := atoms_spec (ws := wsX0_push) B.pre
  have hown : s.vm.findClass RX0 = some m.cls := findClass_of_methodNamed B.named
  have hlocks := B.notSynchronized
  have hinX0 : ∀ w ∈ u_ws RX0 TX0 12, w ∈ wsX0_push := fun w h => List.mem_cons_of_mem _ (bw_X0 w h)
  have hf16 := hts _ (List.mem_cons_of_mem _ bw_25)
  have hf19 := hts _ (List.mem_cons_of_mem _ bw_26)
  have hf149 := hts _ (List.mem_cons_of_mem _ bw_27)
  have hl := lv_entry ([.ref (q 0), .int x, .int y]) (n := 3) (Nat.le_of_ble_eq_true rfl)
  rw [lg_entry_eq]
  generalize (lg_sl ([.ref (q 0), .int x, .int y]) ++ List.replicate (3 - (lg_sl ([.ref (q 0), .int x, .int y])).length) Slot.unset).toArray = ls at hl ⊢
  have hl : lv_has ls 3 [(0, .ref (q 0)), (1, .int x), (2, .int y)] := hl
  refine lv_aload_n hx hb dX0_push_0 rfl (lv_at hl 0 rfl) ?_
  refine va_get (v := .int (nI (xh S))) hx hb hts hinX0 hown hK hP 0 rfl rfl 8 (by decide) hf149 (fun _ h9 => h9) rfl dX0_push_1 ?_
  refine lv_sipush (v := 200) hx hb dX0_push_4 (by decide) ?_
  refine lv_icmp_lt (tgt := 20) hx hb dX0_push_7 (by decide) (fun hc7 => ?_) (fun hc7 => ?_)
  · refine lv_aload_n hx hb dX0_push_20 rfl (lv_at hl 0 rfl) ?_
    refine va_get (v := .ref (q 3)) hx hb hts hinX0 hown hK hP 0 rfl rfl 6 (by decide) hf16 (fun _ h9 => h9) rfl dX0_push_21 ?_
    refine lv_aload_n hx hb dX0_push_24 rfl (lv_at hl 0 rfl) ?_
    refine va_get (v := .int (nI (xh S))) hx hb hts hinX0 hown hK hP 0 rfl rfl 8 (by decide) hf149 (fun _ h9 => h9) rfl dX0_push_25 ?_
    refine lv_iload_n hx hb dX0_push_28 rfl (lv_at hl 1 rfl) ?_
    refine xa_st hx hb hK hP hD hS 3 0 rfl rfl (xh S) (by omega) (by first | decide | assumption) dX0_push_29 (fun H locs hP hD hS => ?_)
    have hP : va_P D vwCl (wX q cA (xk (xd S) (xt S) (xn S) (xm S) (xh S) (xg S) (xse S) (xnu S) (upd (xes S) (xh S) x) (xel S) (xgi S) (xre S))) H := hP
    have hD : va_D _ (wX q cA (xk (xd S) (xt S) (xn S) (xm S) (xh S) (xg S) (xse S) (xnu S) (upd (xes S) (xh S) x) (xel S) (xgi S) (xre S))) := hD
    refine lv_aload_n hx hb dX0_push_30 rfl (lv_at hl 0 rfl) ?_
    refine va_get (v := .ref (q 4)) hx hb hts hinX0 hown hK hP 0 rfl rfl 7 (by decide) hf19 (fun _ h9 => h9) rfl dX0_push_31 ?_
    refine lv_aload_n hx hb dX0_push_34 rfl (lv_at hl 0 rfl) ?_
    refine va_get (v := .int (nI (xh S))) hx hb hts hinX0 hown hK hP 0 rfl rfl 8 (by decide) hf149 (fun _ h9 => h9) rfl dX0_push_35 ?_
    refine lv_iload_n hx hb dX0_push_38 rfl (lv_at hl 2 rfl) ?_
    refine xa_st hx hb hK hP hD hS 4 0 rfl rfl (xh S) (by omega) (by first | decide | assumption) dX0_push_39 (fun H locs hP hD hS => ?_)
    have hP : va_P D vwCl (wX q cA (xk (xd S) (xt S) (xn S) (xm S) (xh S) (xg S) (xse S) (xnu S) (upd (xes S) (xh S) x) (upd (xel S) (xh S) y) (xgi S) (xre S))) H := hP
    have hD : va_D _ (wX q cA (xk (xd S) (xt S) (xn S) (xm S) (xh S) (xg S) (xse S) (xnu S) (upd (xes S) (xh S) x) (upd (xel S) (xh S) y) (xgi S) (xre S))) := hD
    refine lv_aload_n hx hb dX0_push_40 rfl (lv_at hl 0 rfl) ?_
    refine lv_dup hx hb dX0_push_41 rfl ?_
    refine va_get (v := .int (nI (xh S))) hx hb hts hinX0 hown hK hP 0 rfl rfl 8 (by decide) hf149 (fun _ h9 => h9) rfl dX0_push_42 ?_
    refine lv_iconst (v := 1) hx hb dX0_push_45 (by decide) ?_
    refine xi_inc hx hb dX0_push_46 ?_
    refine va_put (v := .int (nI (xh S + 1))) (ty := .int) hx hb hts hinX0 tyX0 tyX0_ok nmX0 hown hK hP hD hS 0 rfl rfl 8 (by decide) hf149 (fun _ h9 => h9) rfl (by decide +kernel) rfl rfl (Nat.le_of_ble_eq_true rfl) dX0_push_47 (fun H locs hP hD hS => ?_)
    have hP : va_P D vwCl (wX q cA (xk (xd S) (xt S) (xn S) (xm S) (xh S + 1) (xg S) (xse S) (xnu S) (upd (xes S) (xh S) x) (upd (xel S) (xh S) y) (xgi S) (xre S))) H := hP
    have hD : va_D _ (wX q cA (xk (xd S) (xt S) (xn S) (xm S) (xh S + 1) (xg S) (xse S) (xnu S) (upd (xes S) (xh S) x) (upd (xel S) (xh S) y) (xgi S) (xre S))) := hD
    have hpo : (xk (xd S) (xt S) (xn S) (xm S) (xh S + 1) (xg S) (xse S) (xnu S) (upd (xes S) (xh S) x) (upd (xel S) (xh S) y) (xgi S) (xre S)) = (xk (xd S) (xt S) (xn S) (xm S) (xh S + 1) (xg S) (xse S) (xnu S) (upd (xes S) (xh S) x) (upd (xel S) (xh S) y) (xgi S) (xre S)) := rfl
    exact W.vret hx hb hr (fun t ht hW => ⟨⟨(xk (xd S) (xt S) (xn S) (xm S) (xh S + 1) (xg S) (xse S) (xnu S) (upd (xes S) (xh S) x) (upd (xel S) (xh S) y) (xgi S) (xre S)), rfl, hpo, by rw [ht]; exact hP, va_K.moved hW.alike hK, hD⟩, hS.F ht⟩) hS.2.2 dX0_push_50
  · exact absurd (show nI (xh S) < 200 from nI_lt hh9 (by decide)) hc7

set_option maxHeartbeats 4000000 in
set_option maxRecDepth 100000 in
theorem kX0_remember (l : Launch) (D : va_G) (q : Nat → Nat) (cA : ClassId) (S : XS) (hok : okX S) (x : Int32) (sz : Nat) : xw_Mv l yX0_remember wsX0_remember ({ frames := 1, cells := 0, slots := 0, locals := 20 }) D vwCl [(cA, .int)] [.ref (q 0), .int x] (wX q cA S) sz (fun u : XS => u = (if k_taut x = false ∧ xg S < 100 then (xk (xd S) (xt S) (xn S) (xm S) (xh S) (xg S + 1) (xse S) (xnu S) (xes S) (xel S) (upd (xgi S) (xg S) x) (xre S)) else S)) (wX q cA) := by
  refine Met.ofW (cc := cX0_remember) (maxL := 2) (ret := none) (by decide) rfl ?_
  intro p e s m args below meth c s₁ B hml hv
  obtain ⟨rfl, hsz, hP, hK, hD0⟩ := hv
  subst hsz
  have hD := hD0.self (sz := s.heap.size)
  have hA : ∀ z, s.heap.size ≤ z → va_A (wX q cA S) s.heap.size z := fun z h => Or.inr h
  have hS : va_S (va_A (wX q cA S) s.heap.size) s.heap s.heap [] := va_S.rf
  obtain ⟨hn40, hh200, hg100⟩ := id hok
  have hx := B.exec
  have hb := B.bytes
  have hr := B.returns
  have hts := atoms_spec (ws := wsX0_remember) B.pre
  have hown : s.vm.findClass RX0 = some m.cls := findClass_of_methodNamed B.named
  have hlocks := B.notSynchronized
  have hinX0 : ∀ w ∈ u_ws RX0 TX0 12, w ∈ wsX0_remember := fun w h => List.mem_cons_of_mem _ (bw_X0 w h)
  have hf22 := hts _ (List.mem_cons_of_mem _ bw_28)
  have hf76 := hts _ (List.mem_cons_of_mem _ bw_29)
  have hl := lv_entry ([.ref (q 0), .int x]) (n := 2) (Nat.le_of_ble_eq_true rfl)
  rw [lg_entry_eq]
  generalize (lg_sl ([.ref (q 0), .int x]) ++ List.replicate (2 - (lg_sl ([.ref (q 0), .int x])).length) Slot.unset).toArray = ls at hl ⊢
  have hl : lv_has ls 2 [(0, .ref (q 0)), (1, .int x)] := hl
  refine lv_iload_n hx hb dX0_remember_0 rfl (lv_at hl 1 rfl) ?_
  refine xc_s (As := [.int x]) (rest := []) ⟨hx, hb, hml, hown, hts⟩ (kX0_isTautology l x) (va_cwS 1 hts (gd_S bw_119 bw_120 bw_1 bw_121) rfl rfl rfl (by decide +kernel) ⟨Nat.le_of_ble_eq_true rfl, Nat.le_of_ble_eq_true rfl⟩) rfl hl.1 rfl (Nat.le_of_ble_eq_true rfl) dX0_remember_1 ⟨Nat.zero_le _, Nat.zero_le _⟩ ?_
  refine lv_if_ne (tgt := 36) hx hb dX0_remember_4 (by decide) (fun hc4 => ?_) (fun hc4 => ?_)
  · have h1 : k_taut x = true := kb_n0.mp hc4
    have hpo : S = (if k_taut x = false ∧ xg S < 100 then (xk (xd S) (xt S) (xn S) (xm S) (xh S) (xg S + 1) (xse S) (xnu S) (xes S) (xel S) (upd (xgi S) (xg S) x) (xre S)) else S) := by rw [if_neg (fun z => by rw [h1] at z; exact absurd z.1 (by decide))]
    exact W.vret hx hb hr (fun t ht hW => ⟨⟨S, rfl, hpo, by rw [ht]; exact hP, va_K.moved hW.alike hK, hD⟩, hS.F ht⟩) hS.2.2 dX0_remember_36
  · have h1 : k_taut x = false := kb_0.mp hc4
    refine lv_aload_n hx hb dX0_remember_7 rfl (lv_at hl 0 rfl) ?_
    refine va_get (v := .int (nI (xg S))) hx hb hts hinX0 hown hK hP 0 rfl rfl 10 (by decide) hf76 (fun _ h9 => h9) rfl dX0_remember_8 ?_
    refine lv_bipush (v := 100) hx hb dX0_remember_11 (by decide) ?_
    refine lv_icmp_ge (tgt := 36) hx hb dX0_remember_13 (by decide) (fun hc13 => ?_) (fun hc13 => ?_)
    · have h2 : ¬ xg S < 100 := fun z => absurd (show (100 : Int32) ≤ nI (xg S) from hc13) (nI_ge z (by decide))
      have hpo : S = (if k_taut x = false ∧ xg S < 100 then (xk (xd S) (xt S) (xn S) (xm S) (xh S) (xg S + 1) (xse S) (xnu S) (xes S) (xel S) (upd (xgi S) (xg S) x) (xre S)) else S) := by rw [if_neg (fun z => h2 z.2)]
      exact W.vret hx hb hr (fun t ht hW => ⟨⟨S, rfl, hpo, by rw [ht]; exact hP, va_K.moved hW.alike hK, hD⟩, hS.F ht⟩) hS.2.2 dX0_remember_36
    · have h2 : xg S < 100 := Nat.lt_of_not_le (fun z => hc13 (show (100 : Int32) ≤ nI (xg S) from nI_le z (by omega)))
      refine lv_aload_n hx hb dX0_remember_16 rfl (lv_at hl 0 rfl) ?_
      refine va_get (v := .ref (q 5)) hx hb hts hinX0 hown hK hP 0 rfl rfl 9 (by decide) hf22 (fun _ h9 => h9) rfl dX0_remember_17 ?_
      refine lv_aload_n hx hb dX0_remember_20 rfl (lv_at hl 0 rfl) ?_
      refine va_get (v := .int (nI (xg S))) hx hb hts hinX0 hown hK hP 0 rfl rfl 10 (by decide) hf76 (fun _ h9 => h9) rfl dX0_remember_21 ?_
      refine lv_iload_n hx hb dX0_remember_24 rfl (lv_at hl 1 rfl) ?_
      refine xa_st hx hb hK hP hD hS 5 0 rfl rfl (xg S) (by omega) (by first | decide | assumption) dX0_remember_25 (fun H locs hP hD hS => ?_)
      have hP : va_P D vwCl (wX q cA (xk (xd S) (xt S) (xn S) (xm S) (xh S) (xg S) (xse S) (xnu S) (xes S) (xel S) (upd (xgi S) (xg S) x) (xre S))) H := hP
      have hD : va_D _ (wX q cA (xk (xd S) (xt S) (xn S) (xm S) (xh S) (xg S) (xse S) (xnu S) (xes S) (xel S) (upd (xgi S) (xg S) x) (xre S))) := hD
      refine lv_aload_n hx hb dX0_remember_26 rfl (lv_at hl 0 rfl) ?_
      refine lv_dup hx hb dX0_remember_27 rfl ?_
      refine va_get (v := .int (nI (xg S))) hx hb hts hinX0 hown hK hP 0 rfl rfl 10 (by decide) hf76 (fun _ h9 => h9) rfl dX0_remember_28 ?_
      refine lv_iconst (v := 1) hx hb dX0_remember_31 (by decide) ?_
      refine xi_inc hx hb dX0_remember_32 ?_
      refine va_put (v := .int (nI (xg S + 1))) (ty := .int) hx hb hts hinX0 tyX0 tyX0_ok nmX0 hown hK hP hD hS 0 rfl rfl 10 (by decide) hf76 (fun _ h9 => h9) rfl (by decide +kernel) rfl rfl (Nat.le_of_ble_eq_true rfl) dX0_remember_33 (fun H locs hP hD hS => ?_)
      have hP : va_P D vwCl (wX q cA (xk (xd S) (xt S) (xn S) (xm S) (xh S) (xg S + 1) (xse S) (xnu S) (xes S) (xel S) (upd (xgi S) (xg S) x) (xre S))) H := hP
      have hD : va_D _ (wX q cA (xk (xd S) (xt S) (xn S) (xm S) (xh S) (xg S + 1) (xse S) (xnu S) (xes S) (xel S) (upd (xgi S) (xg S) x) (xre S))) := hD
      have hpo : (xk (xd S) (xt S) (xn S) (xm S) (xh S) (xg S + 1) (xse S) (xnu S) (xes S) (xel S) (upd (xgi S) (xg S) x) (xre S)) = (if k_taut x = false ∧ xg S < 100 then (xk (xd S) (xt S) (xn S) (xm S) (xh S) (xg S + 1) (xse S) (xnu S) (xes S) (xel S) (upd (xgi S) (xg S) x) (xre S)) else S) := by rw [if_pos ⟨h1, h2⟩]
      exact W.vret hx hb hr (fun t ht hW => ⟨⟨(xk (xd S) (xt S) (xn S) (xm S) (xh S) (xg S + 1) (xse S) (xnu S) (xes S) (xel S) (upd (xgi S) (xg S) x) (xre S)), rfl, hpo, by rw [ht]; exact hP, va_K.moved hW.alike hK, hD⟩, hS.F ht⟩) hS.2.2 dX0_remember_36

set_option maxHeartbeats 4000000 in
set_option maxRecDepth 100000 in
theorem kX0_makeTrue (l : Launch) (D : va_G) (q : Nat → Nat) (cA : ClassId) (S : XS) (hok : okX S) (x : Int32) (sz : Nat) : xw_Mv l yX0_makeTrue wsX0_makeTrue ({ frames := 0, cells := 0, slots := 0, locals := 0 }) D vwCl [(cA, .int)] [.ref (q 0), .int x] (wX q cA S) sz (fun u : XS => u = (xk (xd S) ((xt S ||| (x &&& 2046)) &&& k_not (k_ush x 16)) (xn S) (xm S) (xh S) (xg S) (xse S) (xnu S) (xes S) (xel S) (xgi S) (xre S))) (wX q cA) := by
  refine Met.ofW (cc := cX0_makeTrue) (maxL := 2) (ret := none) (by decide) rfl ?_
  intro p e s m args below meth c s₁ B hml hv
  obtain ⟨rfl, hsz, hP, hK, hD0⟩ := hv
  subst hsz
  have hD := hD0.self (sz := s.heap.size)
  have hA : ∀ z, s.heap.size ≤ z → va_A (wX q cA S) s.heap.size z := fun z h => Or.inr h
  have hS : va_S (va_A (wX q cA S) s.heap.size) s.heap s.heap [] := va_S.rf
  obtain ⟨hn40, hh200, hg100⟩ := id hok
  have hx := B.exec
  have hb := B.bytes
  have hr := B.returns
  have hts := atoms_spec (ws := wsX0_makeTrue) B.pre
  have hown : s.vm.findClass RX0 = some m.cls := findClass_of_methodNamed B.named
  have hlocks := B.notSynchronized
  have hinX0 : ∀ w ∈ u_ws RX0 TX0 12, w ∈ wsX0_makeTrue := fun w h => List.mem_cons_of_mem _ (bw_X0 w h)
  have hf184 := hts _ (List.mem_cons_of_mem _ bw_20)
  have hl := lv_entry ([.ref (q 0), .int x]) (n := 2) (Nat.le_of_ble_eq_true rfl)
  rw [lg_entry_eq]
  generalize (lg_sl ([.ref (q 0), .int x]) ++ List.replicate (2 - (lg_sl ([.ref (q 0), .int x])).length) Slot.unset).toArray = ls at hl ⊢
  have hl : lv_has ls 2 [(0, .ref (q 0)), (1, .int x)] := hl
  refine lv_aload_n hx hb dX0_makeTrue_0 rfl (lv_at hl 0 rfl) ?_
  refine lv_dup hx hb dX0_makeTrue_1 rfl ?_
  refine va_get (v := .int (xt S)) hx hb hts hinX0 hown hK hP 0 rfl rfl 1 (by decide) hf184 (fun _ h9 => h9) rfl dX0_makeTrue_2 ?_
  refine lv_iload_n hx hb dX0_makeTrue_5 rfl (lv_at hl 1 rfl) ?_
  refine lv_sipush (v := 2046) hx hb dX0_makeTrue_6 (by decide) ?_
  refine lv_iand hx hb dX0_makeTrue_9 ?_
  refine lv_ior hx hb dX0_makeTrue_10 ?_
  refine va_put (v := .int ((xt S) ||| (x &&& 2046))) (ty := .int) hx hb hts hinX0 tyX0 tyX0_ok nmX0 hown hK hP hD hS 0 rfl rfl 1 (by decide) hf184 (fun _ h9 => h9) rfl (by decide +kernel) rfl rfl (Nat.le_of_ble_eq_true rfl) dX0_makeTrue_11 (fun H locs hP hD hS => ?_)
  have hP : va_P D vwCl (wX q cA (xk (xd S) ((xt S) ||| (x &&& 2046)) (xn S) (xm S) (xh S) (xg S) (xse S) (xnu S) (xes S) (xel S) (xgi S) (xre S))) H := hP
  have hD : va_D _ (wX q cA (xk (xd S) ((xt S) ||| (x &&& 2046)) (xn S) (xm S) (xh S) (xg S) (xse S) (xnu S) (xes S) (xel S) (xgi S) (xre S))) := hD
  refine lv_aload_n hx hb dX0_makeTrue_14 rfl (lv_at hl 0 rfl) ?_
  refine lv_dup hx hb dX0_makeTrue_15 rfl ?_
  refine va_get (v := .int ((xt S) ||| (x &&& 2046))) hx hb hts hinX0 hown hK hP 0 rfl rfl 1 (by decide) hf184 (fun _ h9 => h9) rfl dX0_makeTrue_16 ?_
  refine lv_iload_n hx hb dX0_makeTrue_19 rfl (lv_at hl 1 rfl) ?_
  refine lv_bipush (v := 16) hx hb dX0_makeTrue_20 (by decide) ?_
  refine lv_iushr (v := k_ush x 16) hx hb dX0_makeTrue_22 rfl ?_
  refine lv_iconst (v := (-1)) hx hb dX0_makeTrue_23 (by decide) ?_
  refine xi_not hx hb dX0_makeTrue_24 ?_
  refine lv_iand hx hb dX0_makeTrue_25 ?_
  refine va_put (v := .int (((xt S) ||| (x &&& 2046)) &&& (k_not (k_ush x 16)))) (ty := .int) hx hb hts hinX0 tyX0 tyX0_ok nmX0 hown hK hP hD hS 0 rfl rfl 1 (by decide) hf184 (fun _ h9 => h9) rfl (by decide +kernel) rfl rfl (Nat.le_of_ble_eq_true rfl) dX0_makeTrue_26 (fun H locs hP hD hS => ?_)
  have hP : va_P D vwCl (wX q cA (xk (xd S) (((xt S) ||| (x &&& 2046)) &&& (k_not (k_ush x 16))) (xn S) (xm S) (xh S) (xg S) (xse S) (xnu S) (xes S) (xel S) (xgi S) (xre S))) H := hP
  have hD : va_D _ (wX q cA (xk (xd S) (((xt S) ||| (x &&& 2046)) &&& (k_not (k_ush x 16))) (xn S) (xm S) (xh S) (xg S) (xse S) (xnu S) (xes S) (xel S) (xgi S) (xre S))) := hD
  have hpo : (xk (xd S) (((xt S) ||| (x &&& 2046)) &&& (k_not (k_ush x 16))) (xn S) (xm S) (xh S) (xg S) (xse S) (xnu S) (xes S) (xel S) (xgi S) (xre S)) = (xk (xd S) ((xt S ||| (x &&& 2046)) &&& k_not (k_ush x 16)) (xn S) (xm S) (xh S) (xg S) (xse S) (xnu S) (xes S) (xel S) (xgi S) (xre S)) := rfl
  exact W.vret hx hb hr (fun t ht hW => ⟨⟨(xk (xd S) (((xt S) ||| (x &&& 2046)) &&& (k_not (k_ush x 16))) (xn S) (xm S) (xh S) (xg S) (xse S) (xnu S) (xes S) (xel S) (xgi S) (xre S)), rfl, hpo, by rw [ht]; exact hP, va_K.moved hW.alike hK, hD⟩, hS.F ht⟩) hS.2.2 dX0_makeTrue_29
