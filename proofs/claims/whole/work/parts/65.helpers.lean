/-! The helpers of the law. -/
abbrev xl (a : Nat) (cL : ClassId) (f : Nat → Int64) : va_W := [(a, .inl (cL, 1, .inr (.inl f)))]
abbrev xLt (cA cL : ClassId) : List (ClassId × FieldType) := [(cA, .int), (cL, .long)]
abbrev xh_M (l : Launch) (y : MethodName) (ws : List Cond) (rm : Room) (D : va_G) (av : List Value) (q : Nat → Nat) (cA : ClassId) (a : Nat) (cL : ClassId) (S : XS) (f : Nat → Int64) (sz : Nat) (post : Int32 → XS × (Nat → Int64) → Prop) : Prop :=
  Met l y ws rm (va_Pc av (xt_P D vwCl (xLt cA cL) (wX q cA S ++ xl a cL f) sz)) (va_Qi post (xw_B D vwCl (xLt cA cL) (wX q cA S ++ xl a cL f) sz (fun z => wX q cA z.1 ++ xl a cL z.2)) (va_A (wX q cA S ++ xl a cL f) sz)) 1 6 (va_A (wX q cA S ++ xl a cL f) sz)

set_option maxHeartbeats 4000000 in
set_option maxRecDepth 100000 in
theorem hL_literal_ok (l : Launch) (D : va_G) (q : Nat → Nat) (cA cL : ClassId) (a : Nat) (f : Nat → Int64) (S : XS) (hok : okX S) (hl9 : l.stackTraces = false) (x : Int32) (h9 : k_isL x = true) (sz : Nat) : xh_M l yL_literal wsL_literal ({ frames := 2, cells := 1, slots := 6, locals := 41 }) D [.ref (q 0), .int x, .ref a] q cA a cL S f sz (fun r z => r = 0 ∧ ∃ r1 : Int32, z.2 0 = Int32.toInt64 r1 ∧ r1 = k_bc (xd S ||| k_lit x) ∧ z.1 = (xk (xd S ||| k_lit x) (xt S) (xn S) (xm S) (xh S) (xg S) (xse S) (xnu S) (xes S) (xel S) (xgi S) (xre S))) := by
  refine va_MetW (cc := cL_literal) (maxL := 4) (ret := (some .int)) (hh := [(0, 9, 12, 13)]) (by decide) rfl ?_
  intro p e s m args below meth c s₁ B hml hv
  obtain ⟨rfl, ⟨hsz, hP, hK, hD0⟩, hX⟩ := hv
  subst hsz
  have hD := hD0.self (sz := s.heap.size)
  have hA : ∀ z, s.heap.size ≤ z → va_A (wX q cA S ++ xl a cL f) s.heap.size z := fun z h => Or.inr h
  have hS : va_S (va_A (wX q cA S ++ xl a cL f) s.heap.size) s.heap s.heap [] := va_S.rf
  have hx := B.exec
  have hb := B.bytes
  have hr := B.returns
  have hts := atoms_spec (ws := wsL_literal) B.pre
  have hown : s.vm.findClass RL = some m.cls := findClass_of_methodNamed B.named
  have hlocks := B.notSynchronized
  have hK1 : va_K D vwCl [(cA, .int)] s := hK.sub [0] rfl
  have htb := vx_table (x := yL_literal) B (hts _ List.mem_cons_self)
  have hl := lv_entry ([.ref (q 0), .int x, .ref a]) (n := 4) (Nat.le_of_ble_eq_true rfl)
  rw [lg_entry_eq]
  generalize (lg_sl ([.ref (q 0), .int x, .ref a]) ++ List.replicate (4 - (lg_sl ([.ref (q 0), .int x, .ref a])).length) Slot.unset).toArray = ls at hl ⊢
  have hl : lv_has ls 4 [(0, .ref (q 0)), (1, .int x), (2, .ref a)] := hl
  refine lv_aload_n hx hb dL_literal_0 rfl (lv_at hl 2 rfl) ?_
  refine lv_iconst (v := 0) hx hb dL_literal_1 (by decide) ?_
  refine lv_aload_n hx hb dL_literal_2 rfl (lv_at hl 0 rfl) ?_
  refine lv_iload_n hx hb dL_literal_3 rfl (lv_at hl 1 rfl) ?_
  refine xp_wi (ws := wX q cA S) (pl := xl a cL f) (As := [.int x]) (rest := [.int 0, .ref a]) ⟨hx, hb, hml, hown, hts⟩ (kX0_literal l D q cA S hok x h9 _) (cwV 1 hts (gd_V bw_90 bw_91 bw_92 bw_1 bw_93) rfl rfl rfl (by decide +kernel) ⟨Nat.le_of_ble_eq_true rfl, Nat.le_of_ble_eq_true rfl⟩) (va_recv (ci := 0) (q0 := 0) hK hP rfl rfl) hP hK1 hD hS hA rfl hl.1 rfl (Nat.le_of_ble_eq_true rfl) dL_literal_4 ⟨Nat.zero_le _, Nat.zero_le _⟩ (fun r1 u1 H locs hu hP hD hS => ?_)
  have hP : va_P D vwCl (wX q cA u1 ++ xl a cL f) H := hP
  have hD : va_D (va_A (wX q cA S ++ xl a cL f) s.heap.size) (wX q cA u1 ++ xl a cL f) := hD
  refine lv_i2l (v := Int32.toInt64 r1) hx hb dL_literal_7 rfl ?_
  refine va_last hx hb hK hP hD hS 7 1 rfl rfl (i := 0) (x := Int32.toInt64 r1) (show ¬ ((0 : Int32) < 0 ∨ 1 ≤ (0 : Int32).toNatClampNeg) from by decide) dL_literal_8 (fun H locs hP hD hS => ?_)
  have hP : va_P D vwCl (wX q cA u1 ++ xl a cL (vp_updL f 0 (Int32.toInt64 r1))) H := hP
  have hD : va_D (va_A (wX q cA S ++ xl a cL f) s.heap.size) (wX q cA u1 ++ xl a cL (vp_updL f 0 (Int32.toInt64 r1))) := hD
  refine lv_goto (tgt := 15) hx hb dL_literal_9 (by decide) ?_
  refine lv_iconst (v := 0) hx hb dL_literal_15 (by decide) ?_
  have hpo : (fun (r : Int32) (z : XS × (Nat → Int64)) => r = 0 ∧ ∃ r1 : Int32, z.2 0 = Int32.toInt64 r1 ∧ r1 = k_bc (xd S ||| k_lit x) ∧ z.1 = (xk (xd S ||| k_lit x) (xt S) (xn S) (xm S) (xh S) (xg S) (xse S) (xnu S) (xes S) (xel S) (xgi S) (xre S))) 0 (u1, vp_updL f 0 (Int32.toInt64 r1)) := ⟨rfl, r1, (show vp_updL f 0 _ 0 = _ from pk_uLs), hu⟩
  refine xw_wide (k := 1) (n9 := 6) (Nat.zero_le _) (Nat.zero_le _) ?_
  exact W.iret (v := 0) hx hb hr (fun t ht hW => ⟨⟨0, (u1, vp_updL f 0 (Int32.toInt64 r1)), rfl, hpo, by rw [ht]; exact hP, va_K.moved hW.alike hK, hD⟩, hS.F ht⟩) hS.2.2 dL_literal_16

set_option maxHeartbeats 4000000 in
set_option maxRecDepth 100000 in
theorem hL_literal_no (l : Launch) (D : va_G) (q : Nat → Nat) (cA cL : ClassId) (a : Nat) (f : Nat → Int64) (S : XS) (hok : okX S) (hl9 : l.stackTraces = false) (x : Int32) (h9 : k_isL x = false) (sz : Nat) : xh_M l yL_literal wsL_literal ({ frames := 7, cells := 1, slots := 6, locals := 103 }) D [.ref (q 0), .int x, .ref a] q cA a cL S f sz (fun r z => r = 1 ∧ z.1 = S) := by
  refine va_MetW (cc := cL_literal) (maxL := 4) (ret := (some .int)) (hh := [(0, 9, 12, 13)]) (by decide) rfl ?_
  intro p e s m args below meth c s₁ B hml hv
  obtain ⟨rfl, ⟨hsz, hP, hK, hD0⟩, hX⟩ := hv
  subst hsz
  have hD := hD0.self (sz := s.heap.size)
  have hA : ∀ z, s.heap.size ≤ z → va_A (wX q cA S ++ xl a cL f) s.heap.size z := fun z h => Or.inr h
  have hS : va_S (va_A (wX q cA S ++ xl a cL f) s.heap.size) s.heap s.heap [] := va_S.rf
  have hx := B.exec
  have hb := B.bytes
  have hr := B.returns
  have hts := atoms_spec (ws := wsL_literal) B.pre
  have hown : s.vm.findClass RL = some m.cls := findClass_of_methodNamed B.named
  have hlocks := B.notSynchronized
  have hK1 : va_K D vwCl [(cA, .int)] s := hK.sub [0] rfl
  have htb := vx_table (x := yL_literal) B (hts _ List.mem_cons_self)
  have hl := lv_entry ([.ref (q 0), .int x, .ref a]) (n := 4) (Nat.le_of_ble_eq_true rfl)
  rw [lg_entry_eq]
  generalize (lg_sl ([.ref (q 0), .int x, .ref a]) ++ List.replicate (4 - (lg_sl ([.ref (q 0), .int x, .ref a])).length) Slot.unset).toArray = ls at hl ⊢
  have hl : lv_has ls 4 [(0, .ref (q 0)), (1, .int x), (2, .ref a)] := hl
  refine lv_aload_n hx hb dL_literal_0 rfl (lv_at hl 2 rfl) ?_
  refine lv_iconst (v := 0) hx hb dL_literal_1 (by decide) ?_
  refine lv_aload_n hx hb dL_literal_2 rfl (lv_at hl 0 rfl) ?_
  refine lv_iload_n hx hb dL_literal_3 rfl (lv_at hl 1 rfl) ?_
  refine xp_t (ws := wX q cA S) (pl := xl a cL f) (As := [.int x]) (rest := [.int 0, .ref a]) ⟨hx, hb, hml, hown, hts⟩ (kX0_literal_no l D q cA S hok hl9 x h9 _) (cwV 1 hts (gd_V bw_90 bw_91 bw_92 bw_1 bw_93) rfl rfl rfl (by decide +kernel) ⟨Nat.le_of_ble_eq_true rfl, Nat.le_of_ble_eq_true rfl⟩) (va_recv (ci := 0) (q0 := 0) hK hP rfl rfl) hX hP hK1 hD hS hA rfl hl.1 rfl (Nat.le_of_ble_eq_true rfl) dL_literal_4 ⟨Nat.le_of_ble_eq_true rfl, Nat.le_of_ble_eq_true rfl⟩ [] ⟨0, 9, 12, 13⟩ [] htb (fun z hz => nomatch hz) (by decide) (by decide) (hts _ (List.mem_cons_of_mem _ bw_89)) (va_Nw.use rfl (hX.2.2.2.1 "java/lang/IllegalArgumentException" (by decide))) (fun u1 q9 H locs hu hP hD hS => ?_)
  refine lv_astore_n (lv' := [(3, .ref q9), (0, .ref (q 0)), (1, .int x), (2, .ref a)]) hx hb dL_literal_12 rfl hl (by decide) rfl (fun ls hl => ?_)
  refine lv_iconst (v := 1) hx hb dL_literal_13 (by decide) ?_
  have hP : va_P D vwCl (wX q cA u1 ++ xl a cL f) H := hP
  have hD : va_D (va_A (wX q cA S ++ xl a cL f) s.heap.size) (wX q cA u1 ++ xl a cL f) := hD
  have hpo : (fun (r : Int32) (z : XS × (Nat → Int64)) => r = 1 ∧ z.1 = S) 1 (u1, f) := ⟨rfl, hu⟩
  exact W.iret (v := 1) hx hb hr (fun t ht hW => ⟨⟨1, (u1, f), rfl, hpo, by rw [ht]; exact hP, va_K.moved hW.alike hK, hD⟩, hS.F ht⟩) hS.2.2 dL_literal_14

set_option maxHeartbeats 4000000 in
set_option maxRecDepth 100000 in
theorem hL_step_0 (l : Launch) (D : va_G) (q : Nat → Nat) (cA cL : ClassId) (a : Nat) (f : Nat → Int64) (S : XS) (hok : okX S) (hl9 : l.stackTraces = false) (hnt : (v_steps 0 (mu_L (vXL S) + 1) 0 (vXL S) (vXT S)).1 ≠ -1) (sz : Nat) : xh_M l yL_step wsL_step ({ frames := 6, cells := 1, slots := 6, locals := 135 }) D [.ref (q 0), .int 0, .ref a] q cA a cL S f sz (fun r z => r = 0 ∧ ∃ r1 : Int32, z.2 0 = Int32.toInt64 r1 ∧ r1 = nI (v_steps 0 (mu_L (vXL S) + 1) 0 (vXL S) (vXT S)).2.1 ∧ vXL z.1 = (v_steps 0 (mu_L (vXL S) + 1) 0 (vXL S) (vXT S)).2.2.1 ∧ vXT z.1 = (v_steps 0 (mu_L (vXL S) + 1) 0 (vXL S) (vXT S)).2.2.2 ∧ x_samT S z.1) := by
  refine va_MetW (cc := cL_step) (maxL := 4) (ret := (some .int)) (hh := [(0, 9, 12, 13), (0, 9, 15, 19)]) (by decide) rfl ?_
  intro p e s m args below meth c s₁ B hml hv
  obtain ⟨rfl, ⟨hsz, hP, hK, hD0⟩, hX⟩ := hv
  subst hsz
  have hD := hD0.self (sz := s.heap.size)
  have hA : ∀ z, s.heap.size ≤ z → va_A (wX q cA S ++ xl a cL f) s.heap.size z := fun z h => Or.inr h
  have hS : va_S (va_A (wX q cA S ++ xl a cL f) s.heap.size) s.heap s.heap [] := va_S.rf
  have hx := B.exec
  have hb := B.bytes
  have hr := B.returns
  have hts := atoms_spec (ws := wsL_step) B.pre
  have hown : s.vm.findClass RL = some m.cls := findClass_of_methodNamed B.named
  have hlocks := B.notSynchronized
  have hK1 : va_K D vwCl [(cA, .int)] s := hK.sub [0] rfl
  have htb := vx_table (x := yL_step) B (hts _ List.mem_cons_self)
  have hl := lv_entry ([.ref (q 0), .int 0, .ref a]) (n := 4) (Nat.le_of_ble_eq_true rfl)
  rw [lg_entry_eq]
  generalize (lg_sl ([.ref (q 0), .int 0, .ref a]) ++ List.replicate (4 - (lg_sl ([.ref (q 0), .int 0, .ref a])).length) Slot.unset).toArray = ls at hl ⊢
  have hl : lv_has ls 4 [(0, .ref (q 0)), (1, .int 0), (2, .ref a)] := hl
  refine lv_aload_n hx hb dL_step_0 rfl (lv_at hl 2 rfl) ?_
  refine lv_iconst (v := 0) hx hb dL_step_1 (by decide) ?_
  refine lv_aload_n hx hb dL_step_2 rfl (lv_at hl 0 rfl) ?_
  refine lv_iload_n hx hb dL_step_3 rfl (lv_at hl 1 rfl) ?_
  refine xp_wi (ws := wX q cA S) (pl := xl a cL f) (As := [.int 0]) (rest := [.int 0, .ref a]) ⟨hx, hb, hml, hown, hts⟩ (kX0_step_0 l D q cA S hok hnt _) (cwV 1 hts (gd_V bw_135 bw_136 bw_137 bw_1 bw_138) rfl rfl rfl (by decide +kernel) ⟨Nat.le_of_ble_eq_true rfl, Nat.le_of_ble_eq_true rfl⟩) (va_recv (ci := 0) (q0 := 0) hK hP rfl rfl) hP hK1 hD hS hA rfl hl.1 rfl (Nat.le_of_ble_eq_true rfl) dL_step_4 ⟨Nat.zero_le _, Nat.zero_le _⟩ (fun r1 u1 H locs hu hP hD hS => ?_)
  have hP : va_P D vwCl (wX q cA u1 ++ xl a cL f) H := hP
  have hD : va_D (va_A (wX q cA S ++ xl a cL f) s.heap.size) (wX q cA u1 ++ xl a cL f) := hD
  refine lv_i2l (v := Int32.toInt64 r1) hx hb dL_step_7 rfl ?_
  refine va_last hx hb hK hP hD hS 7 1 rfl rfl (i := 0) (x := Int32.toInt64 r1) (show ¬ ((0 : Int32) < 0 ∨ 1 ≤ (0 : Int32).toNatClampNeg) from by decide) dL_step_8 (fun H locs hP hD hS => ?_)
  have hP : va_P D vwCl (wX q cA u1 ++ xl a cL (vp_updL f 0 (Int32.toInt64 r1))) H := hP
  have hD : va_D (va_A (wX q cA S ++ xl a cL f) s.heap.size) (wX q cA u1 ++ xl a cL (vp_updL f 0 (Int32.toInt64 r1))) := hD
  refine lv_goto (tgt := 18) hx hb dL_step_9 (by decide) ?_
  refine lv_iconst (v := 0) hx hb dL_step_18 (by decide) ?_
  have hpo : (fun (r : Int32) (z : XS × (Nat → Int64)) => r = 0 ∧ ∃ r1 : Int32, z.2 0 = Int32.toInt64 r1 ∧ r1 = nI (v_steps 0 (mu_L (vXL S) + 1) 0 (vXL S) (vXT S)).2.1 ∧ vXL z.1 = (v_steps 0 (mu_L (vXL S) + 1) 0 (vXL S) (vXT S)).2.2.1 ∧ vXT z.1 = (v_steps 0 (mu_L (vXL S) + 1) 0 (vXL S) (vXT S)).2.2.2 ∧ x_samT S z.1) 0 (u1, vp_updL f 0 (Int32.toInt64 r1)) := ⟨rfl, r1, (show vp_updL f 0 _ 0 = _ from pk_uLs), hu⟩
  refine xw_wide (k := 1) (n9 := 6) (Nat.zero_le _) (Nat.zero_le _) ?_
  exact W.iret (v := 0) hx hb hr (fun t ht hW => ⟨⟨0, (u1, vp_updL f 0 (Int32.toInt64 r1)), rfl, hpo, by rw [ht]; exact hP, va_K.moved hW.alike hK, hD⟩, hS.F ht⟩) hS.2.2 dL_step_19

set_option maxHeartbeats 4000000 in
set_option maxRecDepth 100000 in
theorem hL_step_t0 (l : Launch) (D : va_G) (q : Nat → Nat) (cA cL : ClassId) (a : Nat) (f : Nat → Int64) (S : XS) (hok : okX S) (hl9 : l.stackTraces = false) (hm9 : (v_steps 0 (mu_L (vXL S) + 1) 0 (vXL S) (vXT S)).1 = -1) (sz : Nat) : xh_M l yL_step wsL_step ({ frames := 10, cells := 1, slots := 6, locals := 169 }) D [.ref (q 0), .int 0, .ref a] q cA a cL S f sz (fun r z => r = 2 ∧ vXL z.1 = (v_steps 0 (mu_L (vXL S) + 1) 0 (vXL S) (vXT S)).2.2.1 ∧ vXT z.1 = (v_steps 0 (mu_L (vXL S) + 1) 0 (vXL S) (vXT S)).2.2.2 ∧ x_samT S z.1) := by
  refine va_MetW (cc := cL_step) (maxL := 4) (ret := (some .int)) (hh := [(0, 9, 12, 13), (0, 9, 15, 19)]) (by decide) rfl ?_
  intro p e s m args below meth c s₁ B hml hv
  obtain ⟨rfl, ⟨hsz, hP, hK, hD0⟩, hX⟩ := hv
  subst hsz
  have hD := hD0.self (sz := s.heap.size)
  have hA : ∀ z, s.heap.size ≤ z → va_A (wX q cA S ++ xl a cL f) s.heap.size z := fun z h => Or.inr h
  have hS : va_S (va_A (wX q cA S ++ xl a cL f) s.heap.size) s.heap s.heap [] := va_S.rf
  have hx := B.exec
  have hb := B.bytes
  have hr := B.returns
  have hts := atoms_spec (ws := wsL_step) B.pre
  have hown : s.vm.findClass RL = some m.cls := findClass_of_methodNamed B.named
  have hlocks := B.notSynchronized
  have hK1 : va_K D vwCl [(cA, .int)] s := hK.sub [0] rfl
  have htb := vx_table (x := yL_step) B (hts _ List.mem_cons_self)
  have hl := lv_entry ([.ref (q 0), .int 0, .ref a]) (n := 4) (Nat.le_of_ble_eq_true rfl)
  rw [lg_entry_eq]
  generalize (lg_sl ([.ref (q 0), .int 0, .ref a]) ++ List.replicate (4 - (lg_sl ([.ref (q 0), .int 0, .ref a])).length) Slot.unset).toArray = ls at hl ⊢
  have hl : lv_has ls 4 [(0, .ref (q 0)), (1, .int 0), (2, .ref a)] := hl
  refine lv_aload_n hx hb dL_step_0 rfl (lv_at hl 2 rfl) ?_
  refine lv_iconst (v := 0) hx hb dL_step_1 (by decide) ?_
  refine lv_aload_n hx hb dL_step_2 rfl (lv_at hl 0 rfl) ?_
  refine lv_iload_n hx hb dL_step_3 rfl (lv_at hl 1 rfl) ?_
  refine xp_t (ws := wX q cA S) (pl := xl a cL f) (As := [.int 0]) (rest := [.int 0, .ref a]) ⟨hx, hb, hml, hown, hts⟩ (kX0_step_t0 l D q cA S hok hl9 hm9 _) (cwV 1 hts (gd_V bw_135 bw_136 bw_137 bw_1 bw_138) rfl rfl rfl (by decide +kernel) ⟨Nat.le_of_ble_eq_true rfl, Nat.le_of_ble_eq_true rfl⟩) (va_recv (ci := 0) (q0 := 0) hK hP rfl rfl) hX hP hK1 hD hS hA rfl hl.1 rfl (Nat.le_of_ble_eq_true rfl) dL_step_4 ⟨Nat.le_of_ble_eq_true rfl, Nat.le_of_ble_eq_true rfl⟩ [⟨0, 9, 12, 13⟩] ⟨0, 9, 15, 19⟩ [] htb (fun z hz => by rw [List.mem_singleton.mp hz]; exact Or.inr ⟨by decide, "java/lang/IllegalArgumentException", hts _ (List.mem_cons_of_mem _ bw_89), hX.2.2.2.2.2⟩) (by decide) (by decide) (hts _ (List.mem_cons_of_mem _ bw_111)) (va_Nw.use rfl (hX.2.2.2.1 "java/lang/IllegalStateException" (by decide))) (fun u1 q9 H locs hu hP hD hS => ?_)
  refine lv_astore_n (lv' := [(3, .ref q9), (0, .ref (q 0)), (1, .int 0), (2, .ref a)]) hx hb dL_step_15 rfl hl (by decide) rfl (fun ls hl => ?_)
  refine lv_iconst (v := 2) hx hb dL_step_16 (by decide) ?_
  have hP : va_P D vwCl (wX q cA u1 ++ xl a cL f) H := hP
  have hD : va_D (va_A (wX q cA S ++ xl a cL f) s.heap.size) (wX q cA u1 ++ xl a cL f) := hD
  have hpo : (fun (r : Int32) (z : XS × (Nat → Int64)) => r = 2 ∧ vXL z.1 = (v_steps 0 (mu_L (vXL S) + 1) 0 (vXL S) (vXT S)).2.2.1 ∧ vXT z.1 = (v_steps 0 (mu_L (vXL S) + 1) 0 (vXL S) (vXT S)).2.2.2 ∧ x_samT S z.1) 2 (u1, f) := ⟨rfl, hu⟩
  exact W.iret (v := 2) hx hb hr (fun t ht hW => ⟨⟨2, (u1, f), rfl, hpo, by rw [ht]; exact hP, va_K.moved hW.alike hK, hD⟩, hS.F ht⟩) hS.2.2 dL_step_17

set_option maxHeartbeats 4000000 in
set_option maxRecDepth 100000 in
theorem hL_step_1 (l : Launch) (D : va_G) (q : Nat → Nat) (cA cL : ClassId) (a : Nat) (f : Nat → Int64) (S : XS) (hok : okX S) (hl9 : l.stackTraces = false) (hnt : (v_steps 1 (mu_L (vXL S) + 1) 0 (vXL S) (vXT S)).1 ≠ -1) (sz : Nat) : xh_M l yL_step wsL_step ({ frames := 4, cells := 1, slots := 6, locals := 86 }) D [.ref (q 0), .int 1, .ref a] q cA a cL S f sz (fun r z => r = 0 ∧ ∃ r1 : Int32, z.2 0 = Int32.toInt64 r1 ∧ r1 = nI (v_steps 1 (mu_L (vXL S) + 1) 0 (vXL S) (vXT S)).2.1 ∧ vXL z.1 = (v_steps 1 (mu_L (vXL S) + 1) 0 (vXL S) (vXT S)).2.2.1 ∧ vXT z.1 = (v_steps 1 (mu_L (vXL S) + 1) 0 (vXL S) (vXT S)).2.2.2 ∧ x_samT S z.1) := by
  refine va_MetW (cc := cL_step) (maxL := 4) (ret := (some .int)) (hh := [(0, 9, 12, 13), (0, 9, 15, 19)]) (by decide) rfl ?_
  intro p e s m args below meth c s₁ B hml hv
  obtain ⟨rfl, ⟨hsz, hP, hK, hD0⟩, hX⟩ := hv
  subst hsz
  have hD := hD0.self (sz := s.heap.size)
  have hA : ∀ z, s.heap.size ≤ z → va_A (wX q cA S ++ xl a cL f) s.heap.size z := fun z h => Or.inr h
  have hS : va_S (va_A (wX q cA S ++ xl a cL f) s.heap.size) s.heap s.heap [] := va_S.rf
  have hx := B.exec
  have hb := B.bytes
  have hr := B.returns
  have hts := atoms_spec (ws := wsL_step) B.pre
  have hown : s.vm.findClass RL = some m.cls := findClass_of_methodNamed B.named
  have hlocks := B.notSynchronized
  have hK1 : va_K D vwCl [(cA, .int)] s := hK.sub [0] rfl
  have htb := vx_table (x := yL_step) B (hts _ List.mem_cons_self)
  have hl := lv_entry ([.ref (q 0), .int 1, .ref a]) (n := 4) (Nat.le_of_ble_eq_true rfl)
  rw [lg_entry_eq]
  generalize (lg_sl ([.ref (q 0), .int 1, .ref a]) ++ List.replicate (4 - (lg_sl ([.ref (q 0), .int 1, .ref a])).length) Slot.unset).toArray = ls at hl ⊢
  have hl : lv_has ls 4 [(0, .ref (q 0)), (1, .int 1), (2, .ref a)] := hl
  refine lv_aload_n hx hb dL_step_0 rfl (lv_at hl 2 rfl) ?_
  refine lv_iconst (v := 0) hx hb dL_step_1 (by decide) ?_
  refine lv_aload_n hx hb dL_step_2 rfl (lv_at hl 0 rfl) ?_
  refine lv_iload_n hx hb dL_step_3 rfl (lv_at hl 1 rfl) ?_
  refine xp_wi (ws := wX q cA S) (pl := xl a cL f) (As := [.int 1]) (rest := [.int 0, .ref a]) ⟨hx, hb, hml, hown, hts⟩ (kX0_step_1 l D q cA S hok hnt _) (cwV 1 hts (gd_V bw_135 bw_136 bw_137 bw_1 bw_138) rfl rfl rfl (by decide +kernel) ⟨Nat.le_of_ble_eq_true rfl, Nat.le_of_ble_eq_true rfl⟩) (va_recv (ci := 0) (q0 := 0) hK hP rfl rfl) hP hK1 hD hS hA rfl hl.1 rfl (Nat.le_of_ble_eq_true rfl) dL_step_4 ⟨Nat.zero_le _, Nat.zero_le _⟩ (fun r1 u1 H locs hu hP hD hS => ?_)
  have hP : va_P D vwCl (wX q cA u1 ++ xl a cL f) H := hP
  have hD : va_D (va_A (wX q cA S ++ xl a cL f) s.heap.size) (wX q cA u1 ++ xl a cL f) := hD
  refine lv_i2l (v := Int32.toInt64 r1) hx hb dL_step_7 rfl ?_
  refine va_last hx hb hK hP hD hS 7 1 rfl rfl (i := 0) (x := Int32.toInt64 r1) (show ¬ ((0 : Int32) < 0 ∨ 1 ≤ (0 : Int32).toNatClampNeg) from by decide) dL_step_8 (fun H locs hP hD hS => ?_)
  have hP : va_P D vwCl (wX q cA u1 ++ xl a cL (vp_updL f 0 (Int32.toInt64 r1))) H := hP
  have hD : va_D (va_A (wX q cA S ++ xl a cL f) s.heap.size) (wX q cA u1 ++ xl a cL (vp_updL f 0 (Int32.toInt64 r1))) := hD
  refine lv_goto (tgt := 18) hx hb dL_step_9 (by decide) ?_
  refine lv_iconst (v := 0) hx hb dL_step_18 (by decide) ?_
  have hpo : (fun (r : Int32) (z : XS × (Nat → Int64)) => r = 0 ∧ ∃ r1 : Int32, z.2 0 = Int32.toInt64 r1 ∧ r1 = nI (v_steps 1 (mu_L (vXL S) + 1) 0 (vXL S) (vXT S)).2.1 ∧ vXL z.1 = (v_steps 1 (mu_L (vXL S) + 1) 0 (vXL S) (vXT S)).2.2.1 ∧ vXT z.1 = (v_steps 1 (mu_L (vXL S) + 1) 0 (vXL S) (vXT S)).2.2.2 ∧ x_samT S z.1) 0 (u1, vp_updL f 0 (Int32.toInt64 r1)) := ⟨rfl, r1, (show vp_updL f 0 _ 0 = _ from pk_uLs), hu⟩
  refine xw_wide (k := 1) (n9 := 6) (Nat.zero_le _) (Nat.zero_le _) ?_
  exact W.iret (v := 0) hx hb hr (fun t ht hW => ⟨⟨0, (u1, vp_updL f 0 (Int32.toInt64 r1)), rfl, hpo, by rw [ht]; exact hP, va_K.moved hW.alike hK, hD⟩, hS.F ht⟩) hS.2.2 dL_step_19

set_option maxHeartbeats 4000000 in
set_option maxRecDepth 100000 in
theorem hL_step_2 (l : Launch) (D : va_G) (q : Nat → Nat) (cA cL : ClassId) (a : Nat) (f : Nat → Int64) (S : XS) (hok : okX S) (hl9 : l.stackTraces = false) (hnt : (v_steps 2 (mu_L (vXL S) + 1) 0 (vXL S) (vXT S)).1 ≠ -1) (sz : Nat) : xh_M l yL_step wsL_step ({ frames := 6, cells := 1, slots := 6, locals := 128 }) D [.ref (q 0), .int 2, .ref a] q cA a cL S f sz (fun r z => r = 0 ∧ ∃ r1 : Int32, z.2 0 = Int32.toInt64 r1 ∧ r1 = nI (v_steps 2 (mu_L (vXL S) + 1) 0 (vXL S) (vXT S)).2.1 ∧ vXL z.1 = (v_steps 2 (mu_L (vXL S) + 1) 0 (vXL S) (vXT S)).2.2.1 ∧ vXT z.1 = (v_steps 2 (mu_L (vXL S) + 1) 0 (vXL S) (vXT S)).2.2.2 ∧ x_samT S z.1) := by
  refine va_MetW (cc := cL_step) (maxL := 4) (ret := (some .int)) (hh := [(0, 9, 12, 13), (0, 9, 15, 19)]) (by decide) rfl ?_
  intro p e s m args below meth c s₁ B hml hv
  obtain ⟨rfl, ⟨hsz, hP, hK, hD0⟩, hX⟩ := hv
  subst hsz
  have hD := hD0.self (sz := s.heap.size)
  have hA : ∀ z, s.heap.size ≤ z → va_A (wX q cA S ++ xl a cL f) s.heap.size z := fun z h => Or.inr h
  have hS : va_S (va_A (wX q cA S ++ xl a cL f) s.heap.size) s.heap s.heap [] := va_S.rf
  have hx := B.exec
  have hb := B.bytes
  have hr := B.returns
  have hts := atoms_spec (ws := wsL_step) B.pre
  have hown : s.vm.findClass RL = some m.cls := findClass_of_methodNamed B.named
  have hlocks := B.notSynchronized
  have hK1 : va_K D vwCl [(cA, .int)] s := hK.sub [0] rfl
  have htb := vx_table (x := yL_step) B (hts _ List.mem_cons_self)
  have hl := lv_entry ([.ref (q 0), .int 2, .ref a]) (n := 4) (Nat.le_of_ble_eq_true rfl)
  rw [lg_entry_eq]
  generalize (lg_sl ([.ref (q 0), .int 2, .ref a]) ++ List.replicate (4 - (lg_sl ([.ref (q 0), .int 2, .ref a])).length) Slot.unset).toArray = ls at hl ⊢
  have hl : lv_has ls 4 [(0, .ref (q 0)), (1, .int 2), (2, .ref a)] := hl
  refine lv_aload_n hx hb dL_step_0 rfl (lv_at hl 2 rfl) ?_
  refine lv_iconst (v := 0) hx hb dL_step_1 (by decide) ?_
  refine lv_aload_n hx hb dL_step_2 rfl (lv_at hl 0 rfl) ?_
  refine lv_iload_n hx hb dL_step_3 rfl (lv_at hl 1 rfl) ?_
  refine xp_wi (ws := wX q cA S) (pl := xl a cL f) (As := [.int 2]) (rest := [.int 0, .ref a]) ⟨hx, hb, hml, hown, hts⟩ (kX0_step_2 l D q cA S hok hnt _) (cwV 1 hts (gd_V bw_135 bw_136 bw_137 bw_1 bw_138) rfl rfl rfl (by decide +kernel) ⟨Nat.le_of_ble_eq_true rfl, Nat.le_of_ble_eq_true rfl⟩) (va_recv (ci := 0) (q0 := 0) hK hP rfl rfl) hP hK1 hD hS hA rfl hl.1 rfl (Nat.le_of_ble_eq_true rfl) dL_step_4 ⟨Nat.zero_le _, Nat.zero_le _⟩ (fun r1 u1 H locs hu hP hD hS => ?_)
  have hP : va_P D vwCl (wX q cA u1 ++ xl a cL f) H := hP
  have hD : va_D (va_A (wX q cA S ++ xl a cL f) s.heap.size) (wX q cA u1 ++ xl a cL f) := hD
  refine lv_i2l (v := Int32.toInt64 r1) hx hb dL_step_7 rfl ?_
  refine va_last hx hb hK hP hD hS 7 1 rfl rfl (i := 0) (x := Int32.toInt64 r1) (show ¬ ((0 : Int32) < 0 ∨ 1 ≤ (0 : Int32).toNatClampNeg) from by decide) dL_step_8 (fun H locs hP hD hS => ?_)
  have hP : va_P D vwCl (wX q cA u1 ++ xl a cL (vp_updL f 0 (Int32.toInt64 r1))) H := hP
  have hD : va_D (va_A (wX q cA S ++ xl a cL f) s.heap.size) (wX q cA u1 ++ xl a cL (vp_updL f 0 (Int32.toInt64 r1))) := hD
  refine lv_goto (tgt := 18) hx hb dL_step_9 (by decide) ?_
  refine lv_iconst (v := 0) hx hb dL_step_18 (by decide) ?_
  have hpo : (fun (r : Int32) (z : XS × (Nat → Int64)) => r = 0 ∧ ∃ r1 : Int32, z.2 0 = Int32.toInt64 r1 ∧ r1 = nI (v_steps 2 (mu_L (vXL S) + 1) 0 (vXL S) (vXT S)).2.1 ∧ vXL z.1 = (v_steps 2 (mu_L (vXL S) + 1) 0 (vXL S) (vXT S)).2.2.1 ∧ vXT z.1 = (v_steps 2 (mu_L (vXL S) + 1) 0 (vXL S) (vXT S)).2.2.2 ∧ x_samT S z.1) 0 (u1, vp_updL f 0 (Int32.toInt64 r1)) := ⟨rfl, r1, (show vp_updL f 0 _ 0 = _ from pk_uLs), hu⟩
  refine xw_wide (k := 1) (n9 := 6) (Nat.zero_le _) (Nat.zero_le _) ?_
  exact W.iret (v := 0) hx hb hr (fun t ht hW => ⟨⟨0, (u1, vp_updL f 0 (Int32.toInt64 r1)), rfl, hpo, by rw [ht]; exact hP, va_K.moved hW.alike hK, hD⟩, hS.F ht⟩) hS.2.2 dL_step_19

set_option maxHeartbeats 4000000 in
set_option maxRecDepth 100000 in
theorem hL_step_3 (l : Launch) (D : va_G) (q : Nat → Nat) (cA cL : ClassId) (a : Nat) (f : Nat → Int64) (S : XS) (hok : okX S) (hl9 : l.stackTraces = false) (hnt : (v_steps 3 (mu_L (vXL S) + 1) 0 (vXL S) (vXT S)).1 ≠ -1) (sz : Nat) : xh_M l yL_step wsL_step ({ frames := 6, cells := 1, slots := 6, locals := 135 }) D [.ref (q 0), .int 3, .ref a] q cA a cL S f sz (fun r z => r = 0 ∧ ∃ r1 : Int32, z.2 0 = Int32.toInt64 r1 ∧ r1 = nI (v_steps 3 (mu_L (vXL S) + 1) 0 (vXL S) (vXT S)).2.1 ∧ vXL z.1 = (v_steps 3 (mu_L (vXL S) + 1) 0 (vXL S) (vXT S)).2.2.1 ∧ vXT z.1 = (v_steps 3 (mu_L (vXL S) + 1) 0 (vXL S) (vXT S)).2.2.2 ∧ x_samT S z.1) := by
  refine va_MetW (cc := cL_step) (maxL := 4) (ret := (some .int)) (hh := [(0, 9, 12, 13), (0, 9, 15, 19)]) (by decide) rfl ?_
  intro p e s m args below meth c s₁ B hml hv
  obtain ⟨rfl, ⟨hsz, hP, hK, hD0⟩, hX⟩ := hv
  subst hsz
  have hD := hD0.self (sz := s.heap.size)
  have hA : ∀ z, s.heap.size ≤ z → va_A (wX q cA S ++ xl a cL f) s.heap.size z := fun z h => Or.inr h
  have hS : va_S (va_A (wX q cA S ++ xl a cL f) s.heap.size) s.heap s.heap [] := va_S.rf
  have hx := B.exec
  have hb := B.bytes
  have hr := B.returns
  have hts := atoms_spec (ws := wsL_step) B.pre
  have hown : s.vm.findClass RL = some m.cls := findClass_of_methodNamed B.named
  have hlocks := B.notSynchronized
  have hK1 : va_K D vwCl [(cA, .int)] s := hK.sub [0] rfl
  have htb := vx_table (x := yL_step) B (hts _ List.mem_cons_self)
  have hl := lv_entry ([.ref (q 0), .int 3, .ref a]) (n := 4) (Nat.le_of_ble_eq_true rfl)
  rw [lg_entry_eq]
  generalize (lg_sl ([.ref (q 0), .int 3, .ref a]) ++ List.replicate (4 - (lg_sl ([.ref (q 0), .int 3, .ref a])).length) Slot.unset).toArray = ls at hl ⊢
  have hl : lv_has ls 4 [(0, .ref (q 0)), (1, .int 3), (2, .ref a)] := hl
  refine lv_aload_n hx hb dL_step_0 rfl (lv_at hl 2 rfl) ?_
  refine lv_iconst (v := 0) hx hb dL_step_1 (by decide) ?_
  refine lv_aload_n hx hb dL_step_2 rfl (lv_at hl 0 rfl) ?_
  refine lv_iload_n hx hb dL_step_3 rfl (lv_at hl 1 rfl) ?_
  refine xp_wi (ws := wX q cA S) (pl := xl a cL f) (As := [.int 3]) (rest := [.int 0, .ref a]) ⟨hx, hb, hml, hown, hts⟩ (kX0_step_3 l D q cA S hok hnt _) (cwV 1 hts (gd_V bw_135 bw_136 bw_137 bw_1 bw_138) rfl rfl rfl (by decide +kernel) ⟨Nat.le_of_ble_eq_true rfl, Nat.le_of_ble_eq_true rfl⟩) (va_recv (ci := 0) (q0 := 0) hK hP rfl rfl) hP hK1 hD hS hA rfl hl.1 rfl (Nat.le_of_ble_eq_true rfl) dL_step_4 ⟨Nat.zero_le _, Nat.zero_le _⟩ (fun r1 u1 H locs hu hP hD hS => ?_)
  have hP : va_P D vwCl (wX q cA u1 ++ xl a cL f) H := hP
  have hD : va_D (va_A (wX q cA S ++ xl a cL f) s.heap.size) (wX q cA u1 ++ xl a cL f) := hD
  refine lv_i2l (v := Int32.toInt64 r1) hx hb dL_step_7 rfl ?_
  refine va_last hx hb hK hP hD hS 7 1 rfl rfl (i := 0) (x := Int32.toInt64 r1) (show ¬ ((0 : Int32) < 0 ∨ 1 ≤ (0 : Int32).toNatClampNeg) from by decide) dL_step_8 (fun H locs hP hD hS => ?_)
  have hP : va_P D vwCl (wX q cA u1 ++ xl a cL (vp_updL f 0 (Int32.toInt64 r1))) H := hP
  have hD : va_D (va_A (wX q cA S ++ xl a cL f) s.heap.size) (wX q cA u1 ++ xl a cL (vp_updL f 0 (Int32.toInt64 r1))) := hD
  refine lv_goto (tgt := 18) hx hb dL_step_9 (by decide) ?_
  refine lv_iconst (v := 0) hx hb dL_step_18 (by decide) ?_
  have hpo : (fun (r : Int32) (z : XS × (Nat → Int64)) => r = 0 ∧ ∃ r1 : Int32, z.2 0 = Int32.toInt64 r1 ∧ r1 = nI (v_steps 3 (mu_L (vXL S) + 1) 0 (vXL S) (vXT S)).2.1 ∧ vXL z.1 = (v_steps 3 (mu_L (vXL S) + 1) 0 (vXL S) (vXT S)).2.2.1 ∧ vXT z.1 = (v_steps 3 (mu_L (vXL S) + 1) 0 (vXL S) (vXT S)).2.2.2 ∧ x_samT S z.1) 0 (u1, vp_updL f 0 (Int32.toInt64 r1)) := ⟨rfl, r1, (show vp_updL f 0 _ 0 = _ from pk_uLs), hu⟩
  refine xw_wide (k := 1) (n9 := 6) (Nat.zero_le _) (Nat.zero_le _) ?_
  exact W.iret (v := 0) hx hb hr (fun t ht hW => ⟨⟨0, (u1, vp_updL f 0 (Int32.toInt64 r1)), rfl, hpo, by rw [ht]; exact hP, va_K.moved hW.alike hK, hD⟩, hS.F ht⟩) hS.2.2 dL_step_19

set_option maxHeartbeats 4000000 in
set_option maxRecDepth 100000 in
theorem hL_step_t3 (l : Launch) (D : va_G) (q : Nat → Nat) (cA cL : ClassId) (a : Nat) (f : Nat → Int64) (S : XS) (hok : okX S) (hl9 : l.stackTraces = false) (hm9 : (v_steps 3 (mu_L (vXL S) + 1) 0 (vXL S) (vXT S)).1 = -1) (sz : Nat) : xh_M l yL_step wsL_step ({ frames := 10, cells := 1, slots := 6, locals := 170 }) D [.ref (q 0), .int 3, .ref a] q cA a cL S f sz (fun r z => r = 2 ∧ vXL z.1 = (v_steps 3 (mu_L (vXL S) + 1) 0 (vXL S) (vXT S)).2.2.1 ∧ vXT z.1 = (v_steps 3 (mu_L (vXL S) + 1) 0 (vXL S) (vXT S)).2.2.2 ∧ x_samT S z.1) := by
  refine va_MetW (cc := cL_step) (maxL := 4) (ret := (some .int)) (hh := [(0, 9, 12, 13), (0, 9, 15, 19)]) (by decide) rfl ?_
  intro p e s m args below meth c s₁ B hml hv
  obtain ⟨rfl, ⟨hsz, hP, hK, hD0⟩, hX⟩ := hv
  subst hsz
  have hD := hD0.self (sz := s.heap.size)
  have hA : ∀ z, s.heap.size ≤ z → va_A (wX q cA S ++ xl a cL f) s.heap.size z := fun z h => Or.inr h
  have hS : va_S (va_A (wX q cA S ++ xl a cL f) s.heap.size) s.heap s.heap [] := va_S.rf
  have hx := B.exec
  have hb := B.bytes
  have hr := B.returns
  have hts := atoms_spec (ws := wsL_step) B.pre
  have hown : s.vm.findClass RL = some m.cls := findClass_of_methodNamed B.named
  have hlocks := B.notSynchronized
  have hK1 : va_K D vwCl [(cA, .int)] s := hK.sub [0] rfl
  have htb := vx_table (x := yL_step) B (hts _ List.mem_cons_self)
  have hl := lv_entry ([.ref (q 0), .int 3, .ref a]) (n := 4) (Nat.le_of_ble_eq_true rfl)
  rw [lg_entry_eq]
  generalize (lg_sl ([.ref (q 0), .int 3, .ref a]) ++ List.replicate (4 - (lg_sl ([.ref (q 0), .int 3, .ref a])).length) Slot.unset).toArray = ls at hl ⊢
  have hl : lv_has ls 4 [(0, .ref (q 0)), (1, .int 3), (2, .ref a)] := hl
  refine lv_aload_n hx hb dL_step_0 rfl (lv_at hl 2 rfl) ?_
  refine lv_iconst (v := 0) hx hb dL_step_1 (by decide) ?_
  refine lv_aload_n hx hb dL_step_2 rfl (lv_at hl 0 rfl) ?_
  refine lv_iload_n hx hb dL_step_3 rfl (lv_at hl 1 rfl) ?_
  refine xp_t (ws := wX q cA S) (pl := xl a cL f) (As := [.int 3]) (rest := [.int 0, .ref a]) ⟨hx, hb, hml, hown, hts⟩ (kX0_step_t3 l D q cA S hok hl9 hm9 _) (cwV 1 hts (gd_V bw_135 bw_136 bw_137 bw_1 bw_138) rfl rfl rfl (by decide +kernel) ⟨Nat.le_of_ble_eq_true rfl, Nat.le_of_ble_eq_true rfl⟩) (va_recv (ci := 0) (q0 := 0) hK hP rfl rfl) hX hP hK1 hD hS hA rfl hl.1 rfl (Nat.le_of_ble_eq_true rfl) dL_step_4 ⟨Nat.le_of_ble_eq_true rfl, Nat.le_of_ble_eq_true rfl⟩ [⟨0, 9, 12, 13⟩] ⟨0, 9, 15, 19⟩ [] htb (fun z hz => by rw [List.mem_singleton.mp hz]; exact Or.inr ⟨by decide, "java/lang/IllegalArgumentException", hts _ (List.mem_cons_of_mem _ bw_89), hX.2.2.2.2.2⟩) (by decide) (by decide) (hts _ (List.mem_cons_of_mem _ bw_111)) (va_Nw.use rfl (hX.2.2.2.1 "java/lang/IllegalStateException" (by decide))) (fun u1 q9 H locs hu hP hD hS => ?_)
  refine lv_astore_n (lv' := [(3, .ref q9), (0, .ref (q 0)), (1, .int 3), (2, .ref a)]) hx hb dL_step_15 rfl hl (by decide) rfl (fun ls hl => ?_)
  refine lv_iconst (v := 2) hx hb dL_step_16 (by decide) ?_
  have hP : va_P D vwCl (wX q cA u1 ++ xl a cL f) H := hP
  have hD : va_D (va_A (wX q cA S ++ xl a cL f) s.heap.size) (wX q cA u1 ++ xl a cL f) := hD
  have hpo : (fun (r : Int32) (z : XS × (Nat → Int64)) => r = 2 ∧ vXL z.1 = (v_steps 3 (mu_L (vXL S) + 1) 0 (vXL S) (vXT S)).2.2.1 ∧ vXT z.1 = (v_steps 3 (mu_L (vXL S) + 1) 0 (vXL S) (vXT S)).2.2.2 ∧ x_samT S z.1) 2 (u1, f) := ⟨rfl, hu⟩
  exact W.iret (v := 2) hx hb hr (fun t ht hW => ⟨⟨2, (u1, f), rfl, hpo, by rw [ht]; exact hP, va_K.moved hW.alike hK, hD⟩, hS.F ht⟩) hS.2.2 dL_step_17

set_option maxHeartbeats 4000000 in
set_option maxRecDepth 100000 in
theorem hL_step_no (l : Launch) (D : va_G) (q : Nat → Nat) (cA cL : ClassId) (a : Nat) (f : Nat → Int64) (S : XS) (hok : okX S) (hl9 : l.stackTraces = false) (x : Int32) (hx9 : x < 0 ∨ 3 < x) (sz : Nat) : xh_M l yL_step wsL_step ({ frames := 7, cells := 1, slots := 6, locals := 104 }) D [.ref (q 0), .int x, .ref a] q cA a cL S f sz (fun r z => r = 1 ∧ z.1 = S) := by
  refine va_MetW (cc := cL_step) (maxL := 4) (ret := (some .int)) (hh := [(0, 9, 12, 13), (0, 9, 15, 19)]) (by decide) rfl ?_
  intro p e s m args below meth c s₁ B hml hv
  obtain ⟨rfl, ⟨hsz, hP, hK, hD0⟩, hX⟩ := hv
  subst hsz
  have hD := hD0.self (sz := s.heap.size)
  have hA : ∀ z, s.heap.size ≤ z → va_A (wX q cA S ++ xl a cL f) s.heap.size z := fun z h => Or.inr h
  have hS : va_S (va_A (wX q cA S ++ xl a cL f) s.heap.size) s.heap s.heap [] := va_S.rf
  have hx := B.exec
  have hb := B.bytes
  have hr := B.returns
  have hts := atoms_spec (ws := wsL_step) B.pre
  have hown : s.vm.findClass RL = some m.cls := findClass_of_methodNamed B.named
  have hlocks := B.notSynchronized
  have hK1 : va_K D vwCl [(cA, .int)] s := hK.sub [0] rfl
  have htb := vx_table (x := yL_step) B (hts _ List.mem_cons_self)
  have hl := lv_entry ([.ref (q 0), .int x, .ref a]) (n := 4) (Nat.le_of_ble_eq_true rfl)
  rw [lg_entry_eq]
  generalize (lg_sl ([.ref (q 0), .int x, .ref a]) ++ List.replicate (4 - (lg_sl ([.ref (q 0), .int x, .ref a])).length) Slot.unset).toArray = ls at hl ⊢
  have hl : lv_has ls 4 [(0, .ref (q 0)), (1, .int x), (2, .ref a)] := hl
  refine lv_aload_n hx hb dL_step_0 rfl (lv_at hl 2 rfl) ?_
  refine lv_iconst (v := 0) hx hb dL_step_1 (by decide) ?_
  refine lv_aload_n hx hb dL_step_2 rfl (lv_at hl 0 rfl) ?_
  refine lv_iload_n hx hb dL_step_3 rfl (lv_at hl 1 rfl) ?_
  refine xp_t (ws := wX q cA S) (pl := xl a cL f) (As := [.int x]) (rest := [.int 0, .ref a]) ⟨hx, hb, hml, hown, hts⟩ (kX0_step_no l D q cA S hok hl9 x hx9 _) (cwV 1 hts (gd_V bw_135 bw_136 bw_137 bw_1 bw_138) rfl rfl rfl (by decide +kernel) ⟨Nat.le_of_ble_eq_true rfl, Nat.le_of_ble_eq_true rfl⟩) (va_recv (ci := 0) (q0 := 0) hK hP rfl rfl) hX hP hK1 hD hS hA rfl hl.1 rfl (Nat.le_of_ble_eq_true rfl) dL_step_4 ⟨Nat.le_of_ble_eq_true rfl, Nat.le_of_ble_eq_true rfl⟩ [] ⟨0, 9, 12, 13⟩ [⟨0, 9, 15, 19⟩] htb (fun z hz => nomatch hz) (by decide) (by decide) (hts _ (List.mem_cons_of_mem _ bw_89)) (va_Nw.use rfl (hX.2.2.2.1 "java/lang/IllegalArgumentException" (by decide))) (fun u1 q9 H locs hu hP hD hS => ?_)
  refine lv_astore_n (lv' := [(3, .ref q9), (0, .ref (q 0)), (1, .int x), (2, .ref a)]) hx hb dL_step_12 rfl hl (by decide) rfl (fun ls hl => ?_)
  refine lv_iconst (v := 1) hx hb dL_step_13 (by decide) ?_
  have hP : va_P D vwCl (wX q cA u1 ++ xl a cL f) H := hP
  have hD : va_D (va_A (wX q cA S ++ xl a cL f) s.heap.size) (wX q cA u1 ++ xl a cL f) := hD
  have hpo : (fun (r : Int32) (z : XS × (Nat → Int64)) => r = 1 ∧ z.1 = S) 1 (u1, f) := ⟨rfl, hu⟩
  exact W.iret (v := 1) hx hb hr (fun t ht hW => ⟨⟨1, (u1, f), rfl, hpo, by rw [ht]; exact hP, va_K.moved hW.alike hK, hD⟩, hS.F ht⟩) hS.2.2 dL_step_14

set_option maxHeartbeats 4000000 in
set_option maxRecDepth 100000 in
theorem hL_eliminate_no (l : Launch) (D : va_G) (q : Nat → Nat) (cA cL : ClassId) (a : Nat) (f : Nat → Int64) (S : XS) (hok : okX S) (hl9 : l.stackTraces = false) (v : Nat) (h1 : 1 ≤ v) (h2 : v ≤ 10) (hg2 : q_g2 (vXL S) (nI v) (q_cw (vXL S) (k_both (nI v))) (xn S) 0 [] = none) (sz : Nat) : xh_M l yL_eliminate wsL_eliminate ({ frames := 5, cells := 1, slots := 6, locals := 118 }) D [.ref (q 0), .int (nI v), .ref a] q cA a cL S f sz (fun r z => r = 0 ∧ ∃ r1 : Int32, z.2 0 = Int32.toInt64 r1 ∧ r1 = -1 ∧ ∃ f1 : Nat → Int32, z.1 = (xk (xd S) (xt S) (xn S) (xm S) (xh S) (xg S) (xse S) (xnu S) (xes S) (xel S) (xgi S) f1)) := by
  refine va_MetW (cc := cL_eliminate) (maxL := 4) (ret := (some .int)) (hh := [(0, 9, 12, 13), (0, 9, 15, 19)]) (by decide) rfl ?_
  intro p e s m args below meth c s₁ B hml hv
  obtain ⟨rfl, ⟨hsz, hP, hK, hD0⟩, hX⟩ := hv
  subst hsz
  have hD := hD0.self (sz := s.heap.size)
  have hA : ∀ z, s.heap.size ≤ z → va_A (wX q cA S ++ xl a cL f) s.heap.size z := fun z h => Or.inr h
  have hS : va_S (va_A (wX q cA S ++ xl a cL f) s.heap.size) s.heap s.heap [] := va_S.rf
  have hx := B.exec
  have hb := B.bytes
  have hr := B.returns
  have hts := atoms_spec (ws := wsL_eliminate) B.pre
  have hown : s.vm.findClass RL = some m.cls := findClass_of_methodNamed B.named
  have hlocks := B.notSynchronized
  have hK1 : va_K D vwCl [(cA, .int)] s := hK.sub [0] rfl
  have htb := vx_table (x := yL_eliminate) B (hts _ List.mem_cons_self)
  have hl := lv_entry ([.ref (q 0), .int (nI v), .ref a]) (n := 4) (Nat.le_of_ble_eq_true rfl)
  rw [lg_entry_eq]
  generalize (lg_sl ([.ref (q 0), .int (nI v), .ref a]) ++ List.replicate (4 - (lg_sl ([.ref (q 0), .int (nI v), .ref a])).length) Slot.unset).toArray = ls at hl ⊢
  have hl : lv_has ls 4 [(0, .ref (q 0)), (1, .int (nI v)), (2, .ref a)] := hl
  refine lv_aload_n hx hb dL_eliminate_0 rfl (lv_at hl 2 rfl) ?_
  refine lv_iconst (v := 0) hx hb dL_eliminate_1 (by decide) ?_
  refine lv_aload_n hx hb dL_eliminate_2 rfl (lv_at hl 0 rfl) ?_
  refine lv_iload_n hx hb dL_eliminate_3 rfl (lv_at hl 1 rfl) ?_
  refine xp_wi (ws := wX q cA S) (pl := xl a cL f) (As := [.int (nI v)]) (rest := [.int 0, .ref a]) ⟨hx, hb, hml, hown, hts⟩ (kX0_eliminate_no l D q cA S hok v h1 h2 hg2 _) (cwV 1 hts (gd_V bw_202 bw_203 bw_204 bw_1 bw_205) rfl rfl rfl (by decide +kernel) ⟨Nat.le_of_ble_eq_true rfl, Nat.le_of_ble_eq_true rfl⟩) (va_recv (ci := 0) (q0 := 0) hK hP rfl rfl) hP hK1 hD hS hA rfl hl.1 rfl (Nat.le_of_ble_eq_true rfl) dL_eliminate_4 ⟨Nat.zero_le _, Nat.zero_le _⟩ (fun r1 u1 H locs hu hP hD hS => ?_)
  have hP : va_P D vwCl (wX q cA (xk (xd S) (xt S) (xn S) (xm S) (xh S) (xg S) (xse S) (xnu S) (xes S) (xel S) (xgi S) u1) ++ xl a cL f) H := hP
  have hD : va_D (va_A (wX q cA S ++ xl a cL f) s.heap.size) (wX q cA (xk (xd S) (xt S) (xn S) (xm S) (xh S) (xg S) (xse S) (xnu S) (xes S) (xel S) (xgi S) u1) ++ xl a cL f) := hD
  refine lv_i2l (v := Int32.toInt64 r1) hx hb dL_eliminate_7 rfl ?_
  refine va_last hx hb hK hP hD hS 7 1 rfl rfl (i := 0) (x := Int32.toInt64 r1) (show ¬ ((0 : Int32) < 0 ∨ 1 ≤ (0 : Int32).toNatClampNeg) from by decide) dL_eliminate_8 (fun H locs hP hD hS => ?_)
  have hP : va_P D vwCl (wX q cA (xk (xd S) (xt S) (xn S) (xm S) (xh S) (xg S) (xse S) (xnu S) (xes S) (xel S) (xgi S) u1) ++ xl a cL (vp_updL f 0 (Int32.toInt64 r1))) H := hP
  have hD : va_D (va_A (wX q cA S ++ xl a cL f) s.heap.size) (wX q cA (xk (xd S) (xt S) (xn S) (xm S) (xh S) (xg S) (xse S) (xnu S) (xes S) (xel S) (xgi S) u1) ++ xl a cL (vp_updL f 0 (Int32.toInt64 r1))) := hD
  refine lv_goto (tgt := 18) hx hb dL_eliminate_9 (by decide) ?_
  refine lv_iconst (v := 0) hx hb dL_eliminate_18 (by decide) ?_
  have hpo : (fun (r : Int32) (z : XS × (Nat → Int64)) => r = 0 ∧ ∃ r1 : Int32, z.2 0 = Int32.toInt64 r1 ∧ r1 = -1 ∧ ∃ f1 : Nat → Int32, z.1 = (xk (xd S) (xt S) (xn S) (xm S) (xh S) (xg S) (xse S) (xnu S) (xes S) (xel S) (xgi S) f1)) 0 ((xk (xd S) (xt S) (xn S) (xm S) (xh S) (xg S) (xse S) (xnu S) (xes S) (xel S) (xgi S) u1), vp_updL f 0 (Int32.toInt64 r1)) := ⟨rfl, r1, (show vp_updL f 0 _ 0 = _ from pk_uLs), hu, u1, rfl⟩
  refine xw_wide (k := 1) (n9 := 6) (Nat.zero_le _) (Nat.zero_le _) ?_
  exact W.iret (v := 0) hx hb hr (fun t ht hW => ⟨⟨0, ((xk (xd S) (xt S) (xn S) (xm S) (xh S) (xg S) (xse S) (xnu S) (xes S) (xel S) (xgi S) u1), vp_updL f 0 (Int32.toInt64 r1)), rfl, hpo, by rw [ht]; exact hP, va_K.moved hW.alike hK, hD⟩, hS.F ht⟩) hS.2.2 dL_eliminate_19

set_option maxHeartbeats 4000000 in
set_option maxRecDepth 100000 in
theorem hL_eliminate_do (l : Launch) (D : va_G) (q : Nat → Nat) (cA cL : ClassId) (a : Nat) (f : Nat → Int64) (S : XS) (hok : okX S) (hl9 : l.stackTraces = false) (v : Nat) (h1 : 1 ≤ v) (h2 : v ≤ 10) (R : List Int32) (hg2 : q_g2 (vXL S) (nI v) (q_cw (vXL S) (k_both (nI v))) (xn S) 0 [] = some R) (hroom : xh S + q_cw (vXL S) (k_pos (nI v)) + 1 ≤ 200) (sz : Nat) : xh_M l yL_eliminate wsL_eliminate ({ frames := 5, cells := 1, slots := 6, locals := 118 }) D [.ref (q 0), .int (nI v), .ref a] q cA a cL S f sz (fun r z => r = 0 ∧ ∃ r1 : Int32, z.2 0 = Int32.toInt64 r1 ∧ r1 = nI R.length ∧ vXL z.1 = q_app ((vXL S).filter (fun c => (c.1 &&& k_both (nI v)) == 0)) (xm S) R ∧ xm z.1 = q_mm (xm S) R ∧ vXT z.1 = (vXT S ++ q_pal (k_pos (nI v)) (vXL S)) ++ [(k_neg (nI v), k_neg (nI v))] ∧ xd z.1 = xd S ∧ xt z.1 = xt S ∧ xg z.1 = xg S ∧ xgi z.1 = xgi S) := by
  refine va_MetW (cc := cL_eliminate) (maxL := 4) (ret := (some .int)) (hh := [(0, 9, 12, 13), (0, 9, 15, 19)]) (by decide) rfl ?_
  intro p e s m args below meth c s₁ B hml hv
  obtain ⟨rfl, ⟨hsz, hP, hK, hD0⟩, hX⟩ := hv
  subst hsz
  have hD := hD0.self (sz := s.heap.size)
  have hA : ∀ z, s.heap.size ≤ z → va_A (wX q cA S ++ xl a cL f) s.heap.size z := fun z h => Or.inr h
  have hS : va_S (va_A (wX q cA S ++ xl a cL f) s.heap.size) s.heap s.heap [] := va_S.rf
  have hx := B.exec
  have hb := B.bytes
  have hr := B.returns
  have hts := atoms_spec (ws := wsL_eliminate) B.pre
  have hown : s.vm.findClass RL = some m.cls := findClass_of_methodNamed B.named
  have hlocks := B.notSynchronized
  have hK1 : va_K D vwCl [(cA, .int)] s := hK.sub [0] rfl
  have htb := vx_table (x := yL_eliminate) B (hts _ List.mem_cons_self)
  have hl := lv_entry ([.ref (q 0), .int (nI v), .ref a]) (n := 4) (Nat.le_of_ble_eq_true rfl)
  rw [lg_entry_eq]
  generalize (lg_sl ([.ref (q 0), .int (nI v), .ref a]) ++ List.replicate (4 - (lg_sl ([.ref (q 0), .int (nI v), .ref a])).length) Slot.unset).toArray = ls at hl ⊢
  have hl : lv_has ls 4 [(0, .ref (q 0)), (1, .int (nI v)), (2, .ref a)] := hl
  refine lv_aload_n hx hb dL_eliminate_0 rfl (lv_at hl 2 rfl) ?_
  refine lv_iconst (v := 0) hx hb dL_eliminate_1 (by decide) ?_
  refine lv_aload_n hx hb dL_eliminate_2 rfl (lv_at hl 0 rfl) ?_
  refine lv_iload_n hx hb dL_eliminate_3 rfl (lv_at hl 1 rfl) ?_
  refine xp_wi (ws := wX q cA S) (pl := xl a cL f) (As := [.int (nI v)]) (rest := [.int 0, .ref a]) ⟨hx, hb, hml, hown, hts⟩ (kX0_eliminate_do l D q cA S hok v h1 h2 R hg2 hroom _) (cwV 1 hts (gd_V bw_202 bw_203 bw_204 bw_1 bw_205) rfl rfl rfl (by decide +kernel) ⟨Nat.le_of_ble_eq_true rfl, Nat.le_of_ble_eq_true rfl⟩) (va_recv (ci := 0) (q0 := 0) hK hP rfl rfl) hP hK1 hD hS hA rfl hl.1 rfl (Nat.le_of_ble_eq_true rfl) dL_eliminate_4 ⟨Nat.zero_le _, Nat.zero_le _⟩ (fun r1 u1 H locs hu hP hD hS => ?_)
  have hP : va_P D vwCl (wX q cA u1 ++ xl a cL f) H := hP
  have hD : va_D (va_A (wX q cA S ++ xl a cL f) s.heap.size) (wX q cA u1 ++ xl a cL f) := hD
  refine lv_i2l (v := Int32.toInt64 r1) hx hb dL_eliminate_7 rfl ?_
  refine va_last hx hb hK hP hD hS 7 1 rfl rfl (i := 0) (x := Int32.toInt64 r1) (show ¬ ((0 : Int32) < 0 ∨ 1 ≤ (0 : Int32).toNatClampNeg) from by decide) dL_eliminate_8 (fun H locs hP hD hS => ?_)
  have hP : va_P D vwCl (wX q cA u1 ++ xl a cL (vp_updL f 0 (Int32.toInt64 r1))) H := hP
  have hD : va_D (va_A (wX q cA S ++ xl a cL f) s.heap.size) (wX q cA u1 ++ xl a cL (vp_updL f 0 (Int32.toInt64 r1))) := hD
  refine lv_goto (tgt := 18) hx hb dL_eliminate_9 (by decide) ?_
  refine lv_iconst (v := 0) hx hb dL_eliminate_18 (by decide) ?_
  have hpo : (fun (r : Int32) (z : XS × (Nat → Int64)) => r = 0 ∧ ∃ r1 : Int32, z.2 0 = Int32.toInt64 r1 ∧ r1 = nI R.length ∧ vXL z.1 = q_app ((vXL S).filter (fun c => (c.1 &&& k_both (nI v)) == 0)) (xm S) R ∧ xm z.1 = q_mm (xm S) R ∧ vXT z.1 = (vXT S ++ q_pal (k_pos (nI v)) (vXL S)) ++ [(k_neg (nI v), k_neg (nI v))] ∧ xd z.1 = xd S ∧ xt z.1 = xt S ∧ xg z.1 = xg S ∧ xgi z.1 = xgi S) 0 (u1, vp_updL f 0 (Int32.toInt64 r1)) := ⟨rfl, r1, (show vp_updL f 0 _ 0 = _ from pk_uLs), hu⟩
  refine xw_wide (k := 1) (n9 := 6) (Nat.zero_le _) (Nat.zero_le _) ?_
  exact W.iret (v := 0) hx hb hr (fun t ht hW => ⟨⟨0, (u1, vp_updL f 0 (Int32.toInt64 r1)), rfl, hpo, by rw [ht]; exact hP, va_K.moved hW.alike hK, hD⟩, hS.F ht⟩) hS.2.2 dL_eliminate_19

set_option maxHeartbeats 4000000 in
set_option maxRecDepth 100000 in
theorem hL_eliminate_full (l : Launch) (D : va_G) (q : Nat → Nat) (cA cL : ClassId) (a : Nat) (f : Nat → Int64) (S : XS) (hok : okX S) (hl9 : l.stackTraces = false) (v : Nat) (h1 : 1 ≤ v) (h2 : v ≤ 10) (R : List Int32) (hg2 : q_g2 (vXL S) (nI v) (q_cw (vXL S) (k_both (nI v))) (xn S) 0 [] = some R) (hroom : ¬ xh S + q_cw (vXL S) (k_pos (nI v)) + 1 ≤ 200) (sz : Nat) : xh_M l yL_eliminate wsL_eliminate ({ frames := 7, cells := 1, slots := 6, locals := 118 }) D [.ref (q 0), .int (nI v), .ref a] q cA a cL S f sz (fun r z => r = 2 ∧ ∃ f1 : Nat → Int32, z.1 = (xk (xd S) (xt S) (xn S) (xm S) (xh S) (xg S) (xse S) (xnu S) (xes S) (xel S) (xgi S) f1)) := by
  refine va_MetW (cc := cL_eliminate) (maxL := 4) (ret := (some .int)) (hh := [(0, 9, 12, 13), (0, 9, 15, 19)]) (by decide) rfl ?_
  intro p e s m args below meth c s₁ B hml hv
  obtain ⟨rfl, ⟨hsz, hP, hK, hD0⟩, hX⟩ := hv
  subst hsz
  have hD := hD0.self (sz := s.heap.size)
  have hA : ∀ z, s.heap.size ≤ z → va_A (wX q cA S ++ xl a cL f) s.heap.size z := fun z h => Or.inr h
  have hS : va_S (va_A (wX q cA S ++ xl a cL f) s.heap.size) s.heap s.heap [] := va_S.rf
  have hx := B.exec
  have hb := B.bytes
  have hr := B.returns
  have hts := atoms_spec (ws := wsL_eliminate) B.pre
  have hown : s.vm.findClass RL = some m.cls := findClass_of_methodNamed B.named
  have hlocks := B.notSynchronized
  have hK1 : va_K D vwCl [(cA, .int)] s := hK.sub [0] rfl
  have htb := vx_table (x := yL_eliminate) B (hts _ List.mem_cons_self)
  have hl := lv_entry ([.ref (q 0), .int (nI v), .ref a]) (n := 4) (Nat.le_of_ble_eq_true rfl)
  rw [lg_entry_eq]
  generalize (lg_sl ([.ref (q 0), .int (nI v), .ref a]) ++ List.replicate (4 - (lg_sl ([.ref (q 0), .int (nI v), .ref a])).length) Slot.unset).toArray = ls at hl ⊢
  have hl : lv_has ls 4 [(0, .ref (q 0)), (1, .int (nI v)), (2, .ref a)] := hl
  refine lv_aload_n hx hb dL_eliminate_0 rfl (lv_at hl 2 rfl) ?_
  refine lv_iconst (v := 0) hx hb dL_eliminate_1 (by decide) ?_
  refine lv_aload_n hx hb dL_eliminate_2 rfl (lv_at hl 0 rfl) ?_
  refine lv_iload_n hx hb dL_eliminate_3 rfl (lv_at hl 1 rfl) ?_
  refine xp_t (ws := wX q cA S) (pl := xl a cL f) (As := [.int (nI v)]) (rest := [.int 0, .ref a]) ⟨hx, hb, hml, hown, hts⟩ (kX0_eliminate_full l D q cA S hok hl9 v h1 h2 R hg2 hroom _) (cwV 1 hts (gd_V bw_202 bw_203 bw_204 bw_1 bw_205) rfl rfl rfl (by decide +kernel) ⟨Nat.le_of_ble_eq_true rfl, Nat.le_of_ble_eq_true rfl⟩) (va_recv (ci := 0) (q0 := 0) hK hP rfl rfl) hX hP hK1 hD hS hA rfl hl.1 rfl (Nat.le_of_ble_eq_true rfl) dL_eliminate_4 ⟨Nat.le_of_ble_eq_true rfl, Nat.le_of_ble_eq_true rfl⟩ [⟨0, 9, 12, 13⟩] ⟨0, 9, 15, 19⟩ [] htb (fun z hz => by rw [List.mem_singleton.mp hz]; exact Or.inr ⟨by decide, "java/lang/IllegalArgumentException", hts _ (List.mem_cons_of_mem _ bw_89), hX.2.2.2.2.2⟩) (by decide) (by decide) (hts _ (List.mem_cons_of_mem _ bw_111)) (va_Nw.use rfl (hX.2.2.2.1 "java/lang/IllegalStateException" (by decide))) (fun u1 q9 H locs hu hP hD hS => ?_)
  refine lv_astore_n (lv' := [(3, .ref q9), (0, .ref (q 0)), (1, .int (nI v)), (2, .ref a)]) hx hb dL_eliminate_15 rfl hl (by decide) rfl (fun ls hl => ?_)
  refine lv_iconst (v := 2) hx hb dL_eliminate_16 (by decide) ?_
  have hP : va_P D vwCl (wX q cA (xk (xd S) (xt S) (xn S) (xm S) (xh S) (xg S) (xse S) (xnu S) (xes S) (xel S) (xgi S) u1) ++ xl a cL f) H := hP
  have hD : va_D (va_A (wX q cA S ++ xl a cL f) s.heap.size) (wX q cA (xk (xd S) (xt S) (xn S) (xm S) (xh S) (xg S) (xse S) (xnu S) (xes S) (xel S) (xgi S) u1) ++ xl a cL f) := hD
  have hpo : (fun (r : Int32) (z : XS × (Nat → Int64)) => r = 2 ∧ ∃ f1 : Nat → Int32, z.1 = (xk (xd S) (xt S) (xn S) (xm S) (xh S) (xg S) (xse S) (xnu S) (xes S) (xel S) (xgi S) f1)) 2 ((xk (xd S) (xt S) (xn S) (xm S) (xh S) (xg S) (xse S) (xnu S) (xes S) (xel S) (xgi S) u1), f) := ⟨rfl, u1, rfl⟩
  exact W.iret (v := 2) hx hb hr (fun t ht hW => ⟨⟨2, ((xk (xd S) (xt S) (xn S) (xm S) (xh S) (xg S) (xse S) (xnu S) (xes S) (xel S) (xgi S) u1), f), rfl, hpo, by rw [ht]; exact hP, va_K.moved hW.alike hK, hD⟩, hS.F ht⟩) hS.2.2 dL_eliminate_17

set_option maxHeartbeats 4000000 in
set_option maxRecDepth 100000 in
theorem hL_eliminate_bad (l : Launch) (D : va_G) (q : Nat → Nat) (cA cL : ClassId) (a : Nat) (f : Nat → Int64) (S : XS) (hok : okX S) (hl9 : l.stackTraces = false) (x : Int32) (h9 : k_isV x = false) (sz : Nat) : xh_M l yL_eliminate wsL_eliminate ({ frames := 7, cells := 1, slots := 6, locals := 105 }) D [.ref (q 0), .int x, .ref a] q cA a cL S f sz (fun r z => r = 1 ∧ z.1 = S) := by
  refine va_MetW (cc := cL_eliminate) (maxL := 4) (ret := (some .int)) (hh := [(0, 9, 12, 13), (0, 9, 15, 19)]) (by decide) rfl ?_
  intro p e s m args below meth c s₁ B hml hv
  obtain ⟨rfl, ⟨hsz, hP, hK, hD0⟩, hX⟩ := hv
  subst hsz
  have hD := hD0.self (sz := s.heap.size)
  have hA : ∀ z, s.heap.size ≤ z → va_A (wX q cA S ++ xl a cL f) s.heap.size z := fun z h => Or.inr h
  have hS : va_S (va_A (wX q cA S ++ xl a cL f) s.heap.size) s.heap s.heap [] := va_S.rf
  have hx := B.exec
  have hb := B.bytes
  have hr := B.returns
  have hts := atoms_spec (ws := wsL_eliminate) B.pre
  have hown : s.vm.findClass RL = some m.cls := findClass_of_methodNamed B.named
  have hlocks := B.notSynchronized
  have hK1 : va_K D vwCl [(cA, .int)] s := hK.sub [0] rfl
  have htb := vx_table (x := yL_eliminate) B (hts _ List.mem_cons_self)
  have hl := lv_entry ([.ref (q 0), .int x, .ref a]) (n := 4) (Nat.le_of_ble_eq_true rfl)
  rw [lg_entry_eq]
  generalize (lg_sl ([.ref (q 0), .int x, .ref a]) ++ List.replicate (4 - (lg_sl ([.ref (q 0), .int x, .ref a])).length) Slot.unset).toArray = ls at hl ⊢
  have hl : lv_has ls 4 [(0, .ref (q 0)), (1, .int x), (2, .ref a)] := hl
  refine lv_aload_n hx hb dL_eliminate_0 rfl (lv_at hl 2 rfl) ?_
  refine lv_iconst (v := 0) hx hb dL_eliminate_1 (by decide) ?_
  refine lv_aload_n hx hb dL_eliminate_2 rfl (lv_at hl 0 rfl) ?_
  refine lv_iload_n hx hb dL_eliminate_3 rfl (lv_at hl 1 rfl) ?_
  refine xp_t (ws := wX q cA S) (pl := xl a cL f) (As := [.int x]) (rest := [.int 0, .ref a]) ⟨hx, hb, hml, hown, hts⟩ (kX0_eliminate_bad l D q cA S hok hl9 x h9 _) (cwV 1 hts (gd_V bw_202 bw_203 bw_204 bw_1 bw_205) rfl rfl rfl (by decide +kernel) ⟨Nat.le_of_ble_eq_true rfl, Nat.le_of_ble_eq_true rfl⟩) (va_recv (ci := 0) (q0 := 0) hK hP rfl rfl) hX hP hK1 hD hS hA rfl hl.1 rfl (Nat.le_of_ble_eq_true rfl) dL_eliminate_4 ⟨Nat.le_of_ble_eq_true rfl, Nat.le_of_ble_eq_true rfl⟩ [] ⟨0, 9, 12, 13⟩ [⟨0, 9, 15, 19⟩] htb (fun z hz => nomatch hz) (by decide) (by decide) (hts _ (List.mem_cons_of_mem _ bw_89)) (va_Nw.use rfl (hX.2.2.2.1 "java/lang/IllegalArgumentException" (by decide))) (fun u1 q9 H locs hu hP hD hS => ?_)
  refine lv_astore_n (lv' := [(3, .ref q9), (0, .ref (q 0)), (1, .int x), (2, .ref a)]) hx hb dL_eliminate_12 rfl hl (by decide) rfl (fun ls hl => ?_)
  refine lv_iconst (v := 1) hx hb dL_eliminate_13 (by decide) ?_
  have hP : va_P D vwCl (wX q cA u1 ++ xl a cL f) H := hP
  have hD : va_D (va_A (wX q cA S ++ xl a cL f) s.heap.size) (wX q cA u1 ++ xl a cL f) := hD
  have hpo : (fun (r : Int32) (z : XS × (Nat → Int64)) => r = 1 ∧ z.1 = S) 1 (u1, f) := ⟨rfl, hu⟩
  exact W.iret (v := 1) hx hb hr (fun t ht hW => ⟨⟨1, (u1, f), rfl, hpo, by rw [ht]; exact hP, va_K.moved hW.alike hK, hD⟩, hS.F ht⟩) hS.2.2 dL_eliminate_14

set_option maxHeartbeats 4000000 in
set_option maxRecDepth 100000 in
theorem hL_clause_ok (l : Launch) (D : va_G) (q : Nat → Nat) (cA cL : ClassId) (a : Nat) (f : Nat → Int64) (S : XS) (hok : okX S) (hl9 : l.stackTraces = false) (k : Nat) (hk9 : k < xn S) (sz : Nat) : xh_M l yL_clause wsL_clause ({ frames := 1, cells := 1, slots := 6, locals := 21 }) D [.ref (q 0), .int (nI k), .ref a] q cA a cL S f sz (fun r z => r = 0 ∧ z.2 0 = Int32.toInt64 (xse S k) ∧ z.1 = S) := by
  refine va_MetW (cc := cL_clause) (maxL := 4) (ret := (some .int)) (hh := [(0, 9, 12, 30)]) (by decide) rfl ?_
  intro p e s m args below meth c s₁ B hml hv
  obtain ⟨rfl, ⟨hsz, hP, hK, hD0⟩, hX⟩ := hv
  subst hsz
  have hD := hD0.self (sz := s.heap.size)
  have hA : ∀ z, s.heap.size ≤ z → va_A (wX q cA S ++ xl a cL f) s.heap.size z := fun z h => Or.inr h
  have hS : va_S (va_A (wX q cA S ++ xl a cL f) s.heap.size) s.heap s.heap [] := va_S.rf
  have hx := B.exec
  have hb := B.bytes
  have hr := B.returns
  have hts := atoms_spec (ws := wsL_clause) B.pre
  have hown : s.vm.findClass RL = some m.cls := findClass_of_methodNamed B.named
  have hlocks := B.notSynchronized
  have hK1 : va_K D vwCl [(cA, .int)] s := hK.sub [0] rfl
  have htb := vx_table (x := yL_clause) B (hts _ List.mem_cons_self)
  have hl := lv_entry ([.ref (q 0), .int (nI k), .ref a]) (n := 4) (Nat.le_of_ble_eq_true rfl)
  rw [lg_entry_eq]
  generalize (lg_sl ([.ref (q 0), .int (nI k), .ref a]) ++ List.replicate (4 - (lg_sl ([.ref (q 0), .int (nI k), .ref a])).length) Slot.unset).toArray = ls at hl ⊢
  have hl : lv_has ls 4 [(0, .ref (q 0)), (1, .int (nI k)), (2, .ref a)] := hl
  refine lv_aload_n hx hb dL_clause_0 rfl (lv_at hl 2 rfl) ?_
  refine lv_iconst (v := 0) hx hb dL_clause_1 (by decide) ?_
  refine lv_aload_n hx hb dL_clause_2 rfl (lv_at hl 0 rfl) ?_
  refine lv_iload_n hx hb dL_clause_3 rfl (lv_at hl 1 rfl) ?_
  refine xc_rv (w0 := wX q cA S) (As := [.int (nI k)]) (rest := [.int 0, .ref a]) ⟨hx, hb, hml, hown, hts⟩ (kX0_clause l D q cA S hok k hk9) (cwV 1 hts (gd_V bw_224 bw_225 bw_226 bw_1 bw_227) rfl rfl rfl (by decide +kernel) ⟨Nat.le_of_ble_eq_true rfl, Nat.le_of_ble_eq_true rfl⟩) (va_recv (ci := 0) (q0 := 0) hK hP rfl rfl) (pt_PL hP) hK1 rfl hl.1 rfl (Nat.le_of_ble_eq_true rfl) dL_clause_4 ⟨Nat.zero_le _, Nat.zero_le _⟩ ?_
  refine lv_i2l (v := Int32.toInt64 (xse S k)) hx hb dL_clause_7 rfl ?_
  refine va_last hx hb hK hP hD hS 7 1 rfl rfl (i := 0) (x := Int32.toInt64 (xse S k)) (show ¬ ((0 : Int32) < 0 ∨ 1 ≤ (0 : Int32).toNatClampNeg) from by decide) dL_clause_8 (fun H locs hP hD hS => ?_)
  have hP : va_P D vwCl (wX q cA S ++ xl a cL (vp_updL f 0 (Int32.toInt64 (xse S k)))) H := hP
  have hD : va_D (va_A (wX q cA S ++ xl a cL f) s.heap.size) (wX q cA S ++ xl a cL (vp_updL f 0 (Int32.toInt64 (xse S k)))) := hD
  refine lv_goto (tgt := 15) hx hb dL_clause_9 (by decide) ?_
  refine lv_iconst (v := 0) hx hb dL_clause_15 (by decide) ?_
  have hpo : (fun (r : Int32) (z : XS × (Nat → Int64)) => r = 0 ∧ z.2 0 = Int32.toInt64 (xse S k) ∧ z.1 = S) 0 (S, vp_updL f 0 (Int32.toInt64 (xse S k))) := ⟨rfl, (show vp_updL f 0 _ 0 = _ from pk_uLs), rfl⟩
  refine xw_wide (k := 1) (n9 := 6) (Nat.zero_le _) (Nat.zero_le _) ?_
  exact W.iret (v := 0) hx hb hr (fun t ht hW => ⟨⟨0, (S, vp_updL f 0 (Int32.toInt64 (xse S k))), rfl, hpo, by rw [ht]; exact hP, va_K.moved hW.alike hK, hD⟩, hS.F ht⟩) hS.2.2 dL_clause_16

set_option maxHeartbeats 4000000 in
set_option maxRecDepth 100000 in
theorem hL_clause_no (l : Launch) (D : va_G) (q : Nat → Nat) (cA cL : ClassId) (a : Nat) (f : Nat → Int64) (S : XS) (hok : okX S) (hl9 : l.stackTraces = false) (x : Int32) (hx9 : x < 0 ∨ nI (xn S) ≤ x) (sz : Nat) : xh_M l yL_clause wsL_clause ({ frames := 7, cells := 1, slots := 6, locals := 103 }) D [.ref (q 0), .int x, .ref a] q cA a cL S f sz (fun r z => r = 1 ∧ z.1 = S) := by
  refine va_MetW (cc := cL_clause) (maxL := 4) (ret := (some .int)) (hh := [(0, 9, 12, 30)]) (by decide) rfl ?_
  intro p e s m args below meth c s₁ B hml hv
  obtain ⟨rfl, ⟨hsz, hP, hK, hD0⟩, hX⟩ := hv
  subst hsz
  have hD := hD0.self (sz := s.heap.size)
  have hA : ∀ z, s.heap.size ≤ z → va_A (wX q cA S ++ xl a cL f) s.heap.size z := fun z h => Or.inr h
  have hS : va_S (va_A (wX q cA S ++ xl a cL f) s.heap.size) s.heap s.heap [] := va_S.rf
  have hx := B.exec
  have hb := B.bytes
  have hr := B.returns
  have hts := atoms_spec (ws := wsL_clause) B.pre
  have hown : s.vm.findClass RL = some m.cls := findClass_of_methodNamed B.named
  have hlocks := B.notSynchronized
  have hK1 : va_K D vwCl [(cA, .int)] s := hK.sub [0] rfl
  have htb := vx_table (x := yL_clause) B (hts _ List.mem_cons_self)
  have hl := lv_entry ([.ref (q 0), .int x, .ref a]) (n := 4) (Nat.le_of_ble_eq_true rfl)
  rw [lg_entry_eq]
  generalize (lg_sl ([.ref (q 0), .int x, .ref a]) ++ List.replicate (4 - (lg_sl ([.ref (q 0), .int x, .ref a])).length) Slot.unset).toArray = ls at hl ⊢
  have hl : lv_has ls 4 [(0, .ref (q 0)), (1, .int x), (2, .ref a)] := hl
  refine lv_aload_n hx hb dL_clause_0 rfl (lv_at hl 2 rfl) ?_
  refine lv_iconst (v := 0) hx hb dL_clause_1 (by decide) ?_
  refine lv_aload_n hx hb dL_clause_2 rfl (lv_at hl 0 rfl) ?_
  refine lv_iload_n hx hb dL_clause_3 rfl (lv_at hl 1 rfl) ?_
  refine xp_t (ws := wX q cA S) (pl := xl a cL f) (As := [.int x]) (rest := [.int 0, .ref a]) ⟨hx, hb, hml, hown, hts⟩ (kX0_clause_no l D q cA S hok hl9 x hx9 _) (cwV 1 hts (gd_V bw_224 bw_225 bw_226 bw_1 bw_227) rfl rfl rfl (by decide +kernel) ⟨Nat.le_of_ble_eq_true rfl, Nat.le_of_ble_eq_true rfl⟩) (va_recv (ci := 0) (q0 := 0) hK hP rfl rfl) hX hP hK1 hD hS hA rfl hl.1 rfl (Nat.le_of_ble_eq_true rfl) dL_clause_4 ⟨Nat.le_of_ble_eq_true rfl, Nat.le_of_ble_eq_true rfl⟩ [] ⟨0, 9, 12, 30⟩ [] htb (fun z hz => nomatch hz) (by decide) (by decide) (hts _ (List.mem_cons_of_mem _ bw_223)) (va_Nw.use rfl (hX.2.2.2.1 "java/lang/IndexOutOfBoundsException" (by decide))) (fun u1 q9 H locs hu hP hD hS => ?_)
  refine lv_astore_n (lv' := [(3, .ref q9), (0, .ref (q 0)), (1, .int x), (2, .ref a)]) hx hb dL_clause_12 rfl hl (by decide) rfl (fun ls hl => ?_)
  refine lv_iconst (v := 1) hx hb dL_clause_13 (by decide) ?_
  have hP : va_P D vwCl (wX q cA u1 ++ xl a cL f) H := hP
  have hD : va_D (va_A (wX q cA S ++ xl a cL f) s.heap.size) (wX q cA u1 ++ xl a cL f) := hD
  have hpo : (fun (r : Int32) (z : XS × (Nat → Int64)) => r = 1 ∧ z.1 = S) 1 (u1, f) := ⟨rfl, hu⟩
  exact W.iret (v := 1) hx hb hr (fun t ht hW => ⟨⟨1, (u1, f), rfl, hpo, by rw [ht]; exact hP, va_K.moved hW.alike hK, hD⟩, hS.F ht⟩) hS.2.2 dL_clause_14

set_option maxHeartbeats 4000000 in
set_option maxRecDepth 100000 in
theorem hL_number_ok (l : Launch) (D : va_G) (q : Nat → Nat) (cA cL : ClassId) (a : Nat) (f : Nat → Int64) (S : XS) (hok : okX S) (hl9 : l.stackTraces = false) (k : Nat) (hk9 : k < xn S) (sz : Nat) : xh_M l yL_number wsL_number ({ frames := 1, cells := 1, slots := 6, locals := 21 }) D [.ref (q 0), .int (nI k), .ref a] q cA a cL S f sz (fun r z => r = 0 ∧ z.2 0 = Int32.toInt64 (xnu S k) ∧ z.1 = S) := by
  refine va_MetW (cc := cL_number) (maxL := 4) (ret := (some .int)) (hh := [(0, 9, 12, 30)]) (by decide) rfl ?_
  intro p e s m args below meth c s₁ B hml hv
  obtain ⟨rfl, ⟨hsz, hP, hK, hD0⟩, hX⟩ := hv
  subst hsz
  have hD := hD0.self (sz := s.heap.size)
  have hA : ∀ z, s.heap.size ≤ z → va_A (wX q cA S ++ xl a cL f) s.heap.size z := fun z h => Or.inr h
  have hS : va_S (va_A (wX q cA S ++ xl a cL f) s.heap.size) s.heap s.heap [] := va_S.rf
  have hx := B.exec
  have hb := B.bytes
  have hr := B.returns
  have hts := atoms_spec (ws := wsL_number) B.pre
  have hown : s.vm.findClass RL = some m.cls := findClass_of_methodNamed B.named
  have hlocks := B.notSynchronized
  have hK1 : va_K D vwCl [(cA, .int)] s := hK.sub [0] rfl
  have htb := vx_table (x := yL_number) B (hts _ List.mem_cons_self)
  have hl := lv_entry ([.ref (q 0), .int (nI k), .ref a]) (n := 4) (Nat.le_of_ble_eq_true rfl)
  rw [lg_entry_eq]
  generalize (lg_sl ([.ref (q 0), .int (nI k), .ref a]) ++ List.replicate (4 - (lg_sl ([.ref (q 0), .int (nI k), .ref a])).length) Slot.unset).toArray = ls at hl ⊢
  have hl : lv_has ls 4 [(0, .ref (q 0)), (1, .int (nI k)), (2, .ref a)] := hl
  refine lv_aload_n hx hb dL_number_0 rfl (lv_at hl 2 rfl) ?_
  refine lv_iconst (v := 0) hx hb dL_number_1 (by decide) ?_
  refine lv_aload_n hx hb dL_number_2 rfl (lv_at hl 0 rfl) ?_
  refine lv_iload_n hx hb dL_number_3 rfl (lv_at hl 1 rfl) ?_
  refine xc_rv (w0 := wX q cA S) (As := [.int (nI k)]) (rest := [.int 0, .ref a]) ⟨hx, hb, hml, hown, hts⟩ (kX0_number l D q cA S hok k hk9) (cwV 1 hts (gd_V bw_232 bw_233 bw_234 bw_1 bw_235) rfl rfl rfl (by decide +kernel) ⟨Nat.le_of_ble_eq_true rfl, Nat.le_of_ble_eq_true rfl⟩) (va_recv (ci := 0) (q0 := 0) hK hP rfl rfl) (pt_PL hP) hK1 rfl hl.1 rfl (Nat.le_of_ble_eq_true rfl) dL_number_4 ⟨Nat.zero_le _, Nat.zero_le _⟩ ?_
  refine lv_i2l (v := Int32.toInt64 (xnu S k)) hx hb dL_number_7 rfl ?_
  refine va_last hx hb hK hP hD hS 7 1 rfl rfl (i := 0) (x := Int32.toInt64 (xnu S k)) (show ¬ ((0 : Int32) < 0 ∨ 1 ≤ (0 : Int32).toNatClampNeg) from by decide) dL_number_8 (fun H locs hP hD hS => ?_)
  have hP : va_P D vwCl (wX q cA S ++ xl a cL (vp_updL f 0 (Int32.toInt64 (xnu S k)))) H := hP
  have hD : va_D (va_A (wX q cA S ++ xl a cL f) s.heap.size) (wX q cA S ++ xl a cL (vp_updL f 0 (Int32.toInt64 (xnu S k)))) := hD
  refine lv_goto (tgt := 15) hx hb dL_number_9 (by decide) ?_
  refine lv_iconst (v := 0) hx hb dL_number_15 (by decide) ?_
  have hpo : (fun (r : Int32) (z : XS × (Nat → Int64)) => r = 0 ∧ z.2 0 = Int32.toInt64 (xnu S k) ∧ z.1 = S) 0 (S, vp_updL f 0 (Int32.toInt64 (xnu S k))) := ⟨rfl, (show vp_updL f 0 _ 0 = _ from pk_uLs), rfl⟩
  refine xw_wide (k := 1) (n9 := 6) (Nat.zero_le _) (Nat.zero_le _) ?_
  exact W.iret (v := 0) hx hb hr (fun t ht hW => ⟨⟨0, (S, vp_updL f 0 (Int32.toInt64 (xnu S k))), rfl, hpo, by rw [ht]; exact hP, va_K.moved hW.alike hK, hD⟩, hS.F ht⟩) hS.2.2 dL_number_16

set_option maxHeartbeats 4000000 in
set_option maxRecDepth 100000 in
theorem hL_number_no (l : Launch) (D : va_G) (q : Nat → Nat) (cA cL : ClassId) (a : Nat) (f : Nat → Int64) (S : XS) (hok : okX S) (hl9 : l.stackTraces = false) (x : Int32) (hx9 : x < 0 ∨ nI (xn S) ≤ x) (sz : Nat) : xh_M l yL_number wsL_number ({ frames := 7, cells := 1, slots := 6, locals := 103 }) D [.ref (q 0), .int x, .ref a] q cA a cL S f sz (fun r z => r = 1 ∧ z.1 = S) := by
  refine va_MetW (cc := cL_number) (maxL := 4) (ret := (some .int)) (hh := [(0, 9, 12, 30)]) (by decide) rfl ?_
  intro p e s m args below meth c s₁ B hml hv
  obtain ⟨rfl, ⟨hsz, hP, hK, hD0⟩, hX⟩ := hv
  subst hsz
  have hD := hD0.self (sz := s.heap.size)
  have hA : ∀ z, s.heap.size ≤ z → va_A (wX q cA S ++ xl a cL f) s.heap.size z := fun z h => Or.inr h
  have hS : va_S (va_A (wX q cA S ++ xl a cL f) s.heap.size) s.heap s.heap [] := va_S.rf
  have hx := B.exec
  have hb := B.bytes
  have hr := B.returns
  have hts := atoms_spec (ws := wsL_number) B.pre
  have hown : s.vm.findClass RL = some m.cls := findClass_of_methodNamed B.named
  have hlocks := B.notSynchronized
  have hK1 : va_K D vwCl [(cA, .int)] s := hK.sub [0] rfl
  have htb := vx_table (x := yL_number) B (hts _ List.mem_cons_self)
  have hl := lv_entry ([.ref (q 0), .int x, .ref a]) (n := 4) (Nat.le_of_ble_eq_true rfl)
  rw [lg_entry_eq]
  generalize (lg_sl ([.ref (q 0), .int x, .ref a]) ++ List.replicate (4 - (lg_sl ([.ref (q 0), .int x, .ref a])).length) Slot.unset).toArray = ls at hl ⊢
  have hl : lv_has ls 4 [(0, .ref (q 0)), (1, .int x), (2, .ref a)] := hl
  refine lv_aload_n hx hb dL_number_0 rfl (lv_at hl 2 rfl) ?_
  refine lv_iconst (v := 0) hx hb dL_number_1 (by decide) ?_
  refine lv_aload_n hx hb dL_number_2 rfl (lv_at hl 0 rfl) ?_
  refine lv_iload_n hx hb dL_number_3 rfl (lv_at hl 1 rfl) ?_
  refine xp_t (ws := wX q cA S) (pl := xl a cL f) (As := [.int x]) (rest := [.int 0, .ref a]) ⟨hx, hb, hml, hown, hts⟩ (kX0_number_no l D q cA S hok hl9 x hx9 _) (cwV 1 hts (gd_V bw_232 bw_233 bw_234 bw_1 bw_235) rfl rfl rfl (by decide +kernel) ⟨Nat.le_of_ble_eq_true rfl, Nat.le_of_ble_eq_true rfl⟩) (va_recv (ci := 0) (q0 := 0) hK hP rfl rfl) hX hP hK1 hD hS hA rfl hl.1 rfl (Nat.le_of_ble_eq_true rfl) dL_number_4 ⟨Nat.le_of_ble_eq_true rfl, Nat.le_of_ble_eq_true rfl⟩ [] ⟨0, 9, 12, 30⟩ [] htb (fun z hz => nomatch hz) (by decide) (by decide) (hts _ (List.mem_cons_of_mem _ bw_223)) (va_Nw.use rfl (hX.2.2.2.1 "java/lang/IndexOutOfBoundsException" (by decide))) (fun u1 q9 H locs hu hP hD hS => ?_)
  refine lv_astore_n (lv' := [(3, .ref q9), (0, .ref (q 0)), (1, .int x), (2, .ref a)]) hx hb dL_number_12 rfl hl (by decide) rfl (fun ls hl => ?_)
  refine lv_iconst (v := 1) hx hb dL_number_13 (by decide) ?_
  have hP : va_P D vwCl (wX q cA u1 ++ xl a cL f) H := hP
  have hD : va_D (va_A (wX q cA S ++ xl a cL f) s.heap.size) (wX q cA u1 ++ xl a cL f) := hD
  have hpo : (fun (r : Int32) (z : XS × (Nat → Int64)) => r = 1 ∧ z.1 = S) 1 (u1, f) := ⟨rfl, hu⟩
  exact W.iret (v := 1) hx hb hr (fun t ht hW => ⟨⟨1, (u1, f), rfl, hpo, by rw [ht]; exact hP, va_K.moved hW.alike hK, hD⟩, hS.F ht⟩) hS.2.2 dL_number_14

set_option maxHeartbeats 4000000 in
set_option maxRecDepth 100000 in
theorem hL_entry_ok (l : Launch) (D : va_G) (q : Nat → Nat) (cA cL : ClassId) (a : Nat) (f : Nat → Int64) (S : XS) (hok : okX S) (hl9 : l.stackTraces = false) (k : Nat) (hk9 : k < xh S) (sz : Nat) : xh_M l yL_entry wsL_entry ({ frames := 2, cells := 1, slots := 6, locals := 43 }) D [.ref (q 0), .int (nI k), .ref a] q cA a cL S f sz (fun r z => r = 0 ∧ z.2 0 = Int32.toInt64 (k_ent (xel S k)) ∧ z.1 = S) := by
  refine va_MetW (cc := cL_entry) (maxL := 4) (ret := (some .int)) (hh := [(0, 9, 12, 30)]) (by decide) rfl ?_
  intro p e s m args below meth c s₁ B hml hv
  obtain ⟨rfl, ⟨hsz, hP, hK, hD0⟩, hX⟩ := hv
  subst hsz
  have hD := hD0.self (sz := s.heap.size)
  have hA : ∀ z, s.heap.size ≤ z → va_A (wX q cA S ++ xl a cL f) s.heap.size z := fun z h => Or.inr h
  have hS : va_S (va_A (wX q cA S ++ xl a cL f) s.heap.size) s.heap s.heap [] := va_S.rf
  have hx := B.exec
  have hb := B.bytes
  have hr := B.returns
  have hts := atoms_spec (ws := wsL_entry) B.pre
  have hown : s.vm.findClass RL = some m.cls := findClass_of_methodNamed B.named
  have hlocks := B.notSynchronized
  have hK1 : va_K D vwCl [(cA, .int)] s := hK.sub [0] rfl
  have htb := vx_table (x := yL_entry) B (hts _ List.mem_cons_self)
  have hl := lv_entry ([.ref (q 0), .int (nI k), .ref a]) (n := 4) (Nat.le_of_ble_eq_true rfl)
  rw [lg_entry_eq]
  generalize (lg_sl ([.ref (q 0), .int (nI k), .ref a]) ++ List.replicate (4 - (lg_sl ([.ref (q 0), .int (nI k), .ref a])).length) Slot.unset).toArray = ls at hl ⊢
  have hl : lv_has ls 4 [(0, .ref (q 0)), (1, .int (nI k)), (2, .ref a)] := hl
  refine lv_aload_n hx hb dL_entry_0 rfl (lv_at hl 2 rfl) ?_
  refine lv_iconst (v := 0) hx hb dL_entry_1 (by decide) ?_
  refine lv_aload_n hx hb dL_entry_2 rfl (lv_at hl 0 rfl) ?_
  refine lv_iload_n hx hb dL_entry_3 rfl (lv_at hl 1 rfl) ?_
  refine xc_rv (w0 := wX q cA S) (As := [.int (nI k)]) (rest := [.int 0, .ref a]) ⟨hx, hb, hml, hown, hts⟩ (kX0_entry l D q cA S hok k hk9) (cwV 1 hts (gd_V bw_238 bw_239 bw_240 bw_1 bw_241) rfl rfl rfl (by decide +kernel) ⟨Nat.le_of_ble_eq_true rfl, Nat.le_of_ble_eq_true rfl⟩) (va_recv (ci := 0) (q0 := 0) hK hP rfl rfl) (pt_PL hP) hK1 rfl hl.1 rfl (Nat.le_of_ble_eq_true rfl) dL_entry_4 ⟨Nat.zero_le _, Nat.zero_le _⟩ ?_
  refine lv_i2l (v := Int32.toInt64 (k_ent (xel S k))) hx hb dL_entry_7 rfl ?_
  refine va_last hx hb hK hP hD hS 7 1 rfl rfl (i := 0) (x := Int32.toInt64 (k_ent (xel S k))) (show ¬ ((0 : Int32) < 0 ∨ 1 ≤ (0 : Int32).toNatClampNeg) from by decide) dL_entry_8 (fun H locs hP hD hS => ?_)
  have hP : va_P D vwCl (wX q cA S ++ xl a cL (vp_updL f 0 (Int32.toInt64 (k_ent (xel S k))))) H := hP
  have hD : va_D (va_A (wX q cA S ++ xl a cL f) s.heap.size) (wX q cA S ++ xl a cL (vp_updL f 0 (Int32.toInt64 (k_ent (xel S k))))) := hD
  refine lv_goto (tgt := 15) hx hb dL_entry_9 (by decide) ?_
  refine lv_iconst (v := 0) hx hb dL_entry_15 (by decide) ?_
  have hpo : (fun (r : Int32) (z : XS × (Nat → Int64)) => r = 0 ∧ z.2 0 = Int32.toInt64 (k_ent (xel S k)) ∧ z.1 = S) 0 (S, vp_updL f 0 (Int32.toInt64 (k_ent (xel S k)))) := ⟨rfl, (show vp_updL f 0 _ 0 = _ from pk_uLs), rfl⟩
  refine xw_wide (k := 1) (n9 := 6) (Nat.zero_le _) (Nat.zero_le _) ?_
  exact W.iret (v := 0) hx hb hr (fun t ht hW => ⟨⟨0, (S, vp_updL f 0 (Int32.toInt64 (k_ent (xel S k)))), rfl, hpo, by rw [ht]; exact hP, va_K.moved hW.alike hK, hD⟩, hS.F ht⟩) hS.2.2 dL_entry_16

set_option maxHeartbeats 4000000 in
set_option maxRecDepth 100000 in
theorem hL_entry_no (l : Launch) (D : va_G) (q : Nat → Nat) (cA cL : ClassId) (a : Nat) (f : Nat → Int64) (S : XS) (hok : okX S) (hl9 : l.stackTraces = false) (x : Int32) (hx9 : x < 0 ∨ nI (xh S) ≤ x) (sz : Nat) : xh_M l yL_entry wsL_entry ({ frames := 7, cells := 1, slots := 6, locals := 104 }) D [.ref (q 0), .int x, .ref a] q cA a cL S f sz (fun r z => r = 1 ∧ z.1 = S) := by
  refine va_MetW (cc := cL_entry) (maxL := 4) (ret := (some .int)) (hh := [(0, 9, 12, 30)]) (by decide) rfl ?_
  intro p e s m args below meth c s₁ B hml hv
  obtain ⟨rfl, ⟨hsz, hP, hK, hD0⟩, hX⟩ := hv
  subst hsz
  have hD := hD0.self (sz := s.heap.size)
  have hA : ∀ z, s.heap.size ≤ z → va_A (wX q cA S ++ xl a cL f) s.heap.size z := fun z h => Or.inr h
  have hS : va_S (va_A (wX q cA S ++ xl a cL f) s.heap.size) s.heap s.heap [] := va_S.rf
  have hx := B.exec
  have hb := B.bytes
  have hr := B.returns
  have hts := atoms_spec (ws := wsL_entry) B.pre
  have hown : s.vm.findClass RL = some m.cls := findClass_of_methodNamed B.named
  have hlocks := B.notSynchronized
  have hK1 : va_K D vwCl [(cA, .int)] s := hK.sub [0] rfl
  have htb := vx_table (x := yL_entry) B (hts _ List.mem_cons_self)
  have hl := lv_entry ([.ref (q 0), .int x, .ref a]) (n := 4) (Nat.le_of_ble_eq_true rfl)
  rw [lg_entry_eq]
  generalize (lg_sl ([.ref (q 0), .int x, .ref a]) ++ List.replicate (4 - (lg_sl ([.ref (q 0), .int x, .ref a])).length) Slot.unset).toArray = ls at hl ⊢
  have hl : lv_has ls 4 [(0, .ref (q 0)), (1, .int x), (2, .ref a)] := hl
  refine lv_aload_n hx hb dL_entry_0 rfl (lv_at hl 2 rfl) ?_
  refine lv_iconst (v := 0) hx hb dL_entry_1 (by decide) ?_
  refine lv_aload_n hx hb dL_entry_2 rfl (lv_at hl 0 rfl) ?_
  refine lv_iload_n hx hb dL_entry_3 rfl (lv_at hl 1 rfl) ?_
  refine xp_t (ws := wX q cA S) (pl := xl a cL f) (As := [.int x]) (rest := [.int 0, .ref a]) ⟨hx, hb, hml, hown, hts⟩ (kX0_entry_no l D q cA S hok hl9 x hx9 _) (cwV 1 hts (gd_V bw_238 bw_239 bw_240 bw_1 bw_241) rfl rfl rfl (by decide +kernel) ⟨Nat.le_of_ble_eq_true rfl, Nat.le_of_ble_eq_true rfl⟩) (va_recv (ci := 0) (q0 := 0) hK hP rfl rfl) hX hP hK1 hD hS hA rfl hl.1 rfl (Nat.le_of_ble_eq_true rfl) dL_entry_4 ⟨Nat.le_of_ble_eq_true rfl, Nat.le_of_ble_eq_true rfl⟩ [] ⟨0, 9, 12, 30⟩ [] htb (fun z hz => nomatch hz) (by decide) (by decide) (hts _ (List.mem_cons_of_mem _ bw_223)) (va_Nw.use rfl (hX.2.2.2.1 "java/lang/IndexOutOfBoundsException" (by decide))) (fun u1 q9 H locs hu hP hD hS => ?_)
  refine lv_astore_n (lv' := [(3, .ref q9), (0, .ref (q 0)), (1, .int x), (2, .ref a)]) hx hb dL_entry_12 rfl hl (by decide) rfl (fun ls hl => ?_)
  refine lv_iconst (v := 1) hx hb dL_entry_13 (by decide) ?_
  have hP : va_P D vwCl (wX q cA u1 ++ xl a cL f) H := hP
  have hD : va_D (va_A (wX q cA S ++ xl a cL f) s.heap.size) (wX q cA u1 ++ xl a cL f) := hD
  have hpo : (fun (r : Int32) (z : XS × (Nat → Int64)) => r = 1 ∧ z.1 = S) 1 (u1, f) := ⟨rfl, hu⟩
  exact W.iret (v := 1) hx hb hr (fun t ht hW => ⟨⟨1, (u1, f), rfl, hpo, by rw [ht]; exact hP, va_K.moved hW.alike hK, hD⟩, hS.F ht⟩) hS.2.2 dL_entry_14

set_option maxHeartbeats 4000000 in
set_option maxRecDepth 100000 in
theorem hL_assign_ok (l : Launch) (D : va_G) (q : Nat → Nat) (cA cL : ClassId) (a : Nat) (f : Nat → Int64) (S : XS) (hok : okX S) (hl9 : l.stackTraces = false) (v : Nat) (b : Int32) (h1 : 1 ≤ v) (h2 : v ≤ 10) (sz : Nat) : xh_M l yL_assign wsL_assign ({ frames := 2, cells := 1, slots := 6, locals := 44 }) D [.ref (q 0), .int (nI v), .int b, .ref a] q cA a cL S f sz (fun r z => r = 0 ∧ ∃ r1 : Int32, z.2 0 = (if r1 = 0 then 0 else 1) ∧ r1 = k_b (decide (¬ xt S &&& k_pos (nI v) = 0)) ∧ z.1 = (xk (xd S) (k_mt (xt S) (if b = 0 then k_neg (nI v) else k_pos (nI v))) (xn S) (xm S) (xh S) (xg S) (xse S) (xnu S) (xes S) (xel S) (xgi S) (xre S))) := by
  refine va_MetW (cc := cL_assign) (maxL := 5) (ret := (some .int)) (hh := [(0, 17, 20, 13)]) (by decide) rfl ?_
  intro p e s m args below meth c s₁ B hml hv
  obtain ⟨rfl, ⟨hsz, hP, hK, hD0⟩, hX⟩ := hv
  subst hsz
  have hD := hD0.self (sz := s.heap.size)
  have hA : ∀ z, s.heap.size ≤ z → va_A (wX q cA S ++ xl a cL f) s.heap.size z := fun z h => Or.inr h
  have hS : va_S (va_A (wX q cA S ++ xl a cL f) s.heap.size) s.heap s.heap [] := va_S.rf
  have hx := B.exec
  have hb := B.bytes
  have hr := B.returns
  have hts := atoms_spec (ws := wsL_assign) B.pre
  have hown : s.vm.findClass RL = some m.cls := findClass_of_methodNamed B.named
  have hlocks := B.notSynchronized
  have hK1 : va_K D vwCl [(cA, .int)] s := hK.sub [0] rfl
  have htb := vx_table (x := yL_assign) B (hts _ List.mem_cons_self)
  have hl := lv_entry ([.ref (q 0), .int (nI v), .int b, .ref a]) (n := 5) (Nat.le_of_ble_eq_true rfl)
  rw [lg_entry_eq]
  generalize (lg_sl ([.ref (q 0), .int (nI v), .int b, .ref a]) ++ List.replicate (5 - (lg_sl ([.ref (q 0), .int (nI v), .int b, .ref a])).length) Slot.unset).toArray = ls at hl ⊢
  have hl : lv_has ls 5 [(0, .ref (q 0)), (1, .int (nI v)), (2, .int b), (3, .ref a)] := hl
  refine lv_aload_n hx hb dL_assign_0 rfl (lv_at hl 3 rfl) ?_
  refine lv_iconst (v := 0) hx hb dL_assign_1 (by decide) ?_
  refine lv_aload_n hx hb dL_assign_2 rfl (lv_at hl 0 rfl) ?_
  refine lv_iload_n hx hb dL_assign_3 rfl (lv_at hl 1 rfl) ?_
  refine lv_iload_n hx hb dL_assign_4 rfl (lv_at hl 2 rfl) ?_
  refine xp_wi (ws := wX q cA S) (pl := xl a cL f) (As := [.int (nI v), .int b]) (rest := [.int 0, .ref a]) ⟨hx, hb, hml, hown, hts⟩ (kX0_assign l D q cA S hok v b h1 h2 _) (cwV 2 hts (gd_V bw_248 bw_249 bw_250 bw_1 bw_251) rfl rfl rfl (by decide +kernel) ⟨Nat.le_of_ble_eq_true rfl, Nat.le_of_ble_eq_true rfl⟩) (va_recv (ci := 0) (q0 := 0) hK hP rfl rfl) hP hK1 hD hS hA rfl hl.1 rfl (Nat.le_of_ble_eq_true rfl) dL_assign_5 ⟨Nat.zero_le _, Nat.zero_le _⟩ (fun r1 u1 H locs hu hP hD hS => ?_)
  have hP : va_P D vwCl (wX q cA u1 ++ xl a cL f) H := hP
  have hD : va_D (va_A (wX q cA S ++ xl a cL f) s.heap.size) (wX q cA u1 ++ xl a cL f) := hD
  refine lv_if_eq (tgt := 15) hx hb dL_assign_8 (by decide) (fun hc => ?_) (fun hc => ?_)
  · refine lv_lconst (v := 0) hx hb dL_assign_15 (by decide) ?_
    refine va_last hx hb hK hP hD hS 7 1 rfl rfl (i := 0) (x := 0) (show ¬ ((0 : Int32) < 0 ∨ 1 ≤ (0 : Int32).toNatClampNeg) from by decide) dL_assign_16 (fun H locs hP hD hS => ?_)
    have hP : va_P D vwCl (wX q cA u1 ++ xl a cL (vp_updL f 0 0)) H := hP
    have hD : va_D (va_A (wX q cA S ++ xl a cL f) s.heap.size) (wX q cA u1 ++ xl a cL (vp_updL f 0 0)) := hD
    refine lv_goto (tgt := 24) hx hb dL_assign_17 (by decide) ?_
    refine lv_iconst (v := 0) hx hb dL_assign_24 (by decide) ?_
    have hpo : (fun (r : Int32) (z : XS × (Nat → Int64)) => r = 0 ∧ ∃ r1 : Int32, z.2 0 = (if r1 = 0 then 0 else 1) ∧ r1 = k_b (decide (¬ xt S &&& k_pos (nI v) = 0)) ∧ z.1 = (xk (xd S) (k_mt (xt S) (if b = 0 then k_neg (nI v) else k_pos (nI v))) (xn S) (xm S) (xh S) (xg S) (xse S) (xnu S) (xes S) (xel S) (xgi S) (xre S))) 0 (u1, vp_updL f 0 0) := ⟨rfl, r1, by rw [if_pos hc]; exact (show vp_updL f 0 _ 0 = _ from pk_uLs), hu⟩
    refine xw_wide (k := 1) (n9 := 6) (Nat.zero_le _) (Nat.zero_le _) ?_
    exact W.iret (v := 0) hx hb hr (fun t ht hW => ⟨⟨0, (u1, vp_updL f 0 0), rfl, hpo, by rw [ht]; exact hP, va_K.moved hW.alike hK, hD⟩, hS.F ht⟩) hS.2.2 dL_assign_25
  · refine lv_lconst (v := 1) hx hb dL_assign_11 (by decide) ?_
    refine lv_goto (tgt := 16) hx hb dL_assign_12 (by decide) ?_
    refine va_last hx hb hK hP hD hS 7 1 rfl rfl (i := 0) (x := 1) (show ¬ ((0 : Int32) < 0 ∨ 1 ≤ (0 : Int32).toNatClampNeg) from by decide) dL_assign_16 (fun H locs hP hD hS => ?_)
    have hP : va_P D vwCl (wX q cA u1 ++ xl a cL (vp_updL f 0 1)) H := hP
    have hD : va_D (va_A (wX q cA S ++ xl a cL f) s.heap.size) (wX q cA u1 ++ xl a cL (vp_updL f 0 1)) := hD
    refine lv_goto (tgt := 24) hx hb dL_assign_17 (by decide) ?_
    refine lv_iconst (v := 0) hx hb dL_assign_24 (by decide) ?_
    have hpo : (fun (r : Int32) (z : XS × (Nat → Int64)) => r = 0 ∧ ∃ r1 : Int32, z.2 0 = (if r1 = 0 then 0 else 1) ∧ r1 = k_b (decide (¬ xt S &&& k_pos (nI v) = 0)) ∧ z.1 = (xk (xd S) (k_mt (xt S) (if b = 0 then k_neg (nI v) else k_pos (nI v))) (xn S) (xm S) (xh S) (xg S) (xse S) (xnu S) (xes S) (xel S) (xgi S) (xre S))) 0 (u1, vp_updL f 0 1) := ⟨rfl, r1, by rw [if_neg hc]; exact (show vp_updL f 0 _ 0 = _ from pk_uLs), hu⟩
    refine xw_wide (k := 1) (n9 := 6) (Nat.zero_le _) (Nat.zero_le _) ?_
    exact W.iret (v := 0) hx hb hr (fun t ht hW => ⟨⟨0, (u1, vp_updL f 0 1), rfl, hpo, by rw [ht]; exact hP, va_K.moved hW.alike hK, hD⟩, hS.F ht⟩) hS.2.2 dL_assign_25

set_option maxHeartbeats 4000000 in
set_option maxRecDepth 100000 in
theorem hL_assign_no (l : Launch) (D : va_G) (q : Nat → Nat) (cA cL : ClassId) (a : Nat) (f : Nat → Int64) (S : XS) (hok : okX S) (hl9 : l.stackTraces = false) (x b : Int32) (h9 : k_isV x = false) (sz : Nat) : xh_M l yL_assign wsL_assign ({ frames := 7, cells := 1, slots := 6, locals := 105 }) D [.ref (q 0), .int x, .int b, .ref a] q cA a cL S f sz (fun r z => r = 1 ∧ z.1 = S) := by
  refine va_MetW (cc := cL_assign) (maxL := 5) (ret := (some .int)) (hh := [(0, 17, 20, 13)]) (by decide) rfl ?_
  intro p e s m args below meth c s₁ B hml hv
  obtain ⟨rfl, ⟨hsz, hP, hK, hD0⟩, hX⟩ := hv
  subst hsz
  have hD := hD0.self (sz := s.heap.size)
  have hA : ∀ z, s.heap.size ≤ z → va_A (wX q cA S ++ xl a cL f) s.heap.size z := fun z h => Or.inr h
  have hS : va_S (va_A (wX q cA S ++ xl a cL f) s.heap.size) s.heap s.heap [] := va_S.rf
  have hx := B.exec
  have hb := B.bytes
  have hr := B.returns
  have hts := atoms_spec (ws := wsL_assign) B.pre
  have hown : s.vm.findClass RL = some m.cls := findClass_of_methodNamed B.named
  have hlocks := B.notSynchronized
  have hK1 : va_K D vwCl [(cA, .int)] s := hK.sub [0] rfl
  have htb := vx_table (x := yL_assign) B (hts _ List.mem_cons_self)
  have hl := lv_entry ([.ref (q 0), .int x, .int b, .ref a]) (n := 5) (Nat.le_of_ble_eq_true rfl)
  rw [lg_entry_eq]
  generalize (lg_sl ([.ref (q 0), .int x, .int b, .ref a]) ++ List.replicate (5 - (lg_sl ([.ref (q 0), .int x, .int b, .ref a])).length) Slot.unset).toArray = ls at hl ⊢
  have hl : lv_has ls 5 [(0, .ref (q 0)), (1, .int x), (2, .int b), (3, .ref a)] := hl
  refine lv_aload_n hx hb dL_assign_0 rfl (lv_at hl 3 rfl) ?_
  refine lv_iconst (v := 0) hx hb dL_assign_1 (by decide) ?_
  refine lv_aload_n hx hb dL_assign_2 rfl (lv_at hl 0 rfl) ?_
  refine lv_iload_n hx hb dL_assign_3 rfl (lv_at hl 1 rfl) ?_
  refine lv_iload_n hx hb dL_assign_4 rfl (lv_at hl 2 rfl) ?_
  refine xp_t (ws := wX q cA S) (pl := xl a cL f) (As := [.int x, .int b]) (rest := [.int 0, .ref a]) ⟨hx, hb, hml, hown, hts⟩ (kX0_assign_no l D q cA S hok hl9 x b h9 _) (cwV 2 hts (gd_V bw_248 bw_249 bw_250 bw_1 bw_251) rfl rfl rfl (by decide +kernel) ⟨Nat.le_of_ble_eq_true rfl, Nat.le_of_ble_eq_true rfl⟩) (va_recv (ci := 0) (q0 := 0) hK hP rfl rfl) hX hP hK1 hD hS hA rfl hl.1 rfl (Nat.le_of_ble_eq_true rfl) dL_assign_5 ⟨Nat.le_of_ble_eq_true rfl, Nat.le_of_ble_eq_true rfl⟩ [] ⟨0, 17, 20, 13⟩ [] htb (fun z hz => nomatch hz) (by decide) (by decide) (hts _ (List.mem_cons_of_mem _ bw_89)) (va_Nw.use rfl (hX.2.2.2.1 "java/lang/IllegalArgumentException" (by decide))) (fun u1 q9 H locs hu hP hD hS => ?_)
  refine lv_astore (lv' := [(4, .ref q9), (0, .ref (q 0)), (1, .int x), (2, .int b), (3, .ref a)]) hx hb dL_assign_20 hl (by decide) rfl (fun ls hl => ?_)
  refine lv_iconst (v := 1) hx hb dL_assign_22 (by decide) ?_
  have hP : va_P D vwCl (wX q cA u1 ++ xl a cL f) H := hP
  have hD : va_D (va_A (wX q cA S ++ xl a cL f) s.heap.size) (wX q cA u1 ++ xl a cL f) := hD
  have hpo : (fun (r : Int32) (z : XS × (Nat → Int64)) => r = 1 ∧ z.1 = S) 1 (u1, f) := ⟨rfl, hu⟩
  exact W.iret (v := 1) hx hb hr (fun t ht hW => ⟨⟨1, (u1, f), rfl, hpo, by rw [ht]; exact hP, va_K.moved hW.alike hK, hD⟩, hS.F ht⟩) hS.2.2 dL_assign_23
