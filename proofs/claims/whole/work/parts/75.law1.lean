/-! The calls of the law's loop. -/
theorem lcmp_self (x : Int64) : lg_cmp x x = 0 := by simp [lg_cmp]
theorem xi_inc2 {p : Program} {l : Launch} {e : Env} {R : Room} {s : State} {m : MethodId} {args : Array Value} {below : List Frame} {meth : Method} {c : Code} {H : Heap} {locs : List Loc} {cells slots : Nat} {Q : State → Prop} {cc : ByteArray} {pc : Nat} {ls : Array Slot} {rest : List Value} (hexec : p.tables.exec = Jvm.exec) (hb : c.code = cc) {k : Nat} (hdg : decode cc pc = .ok (.iadd, 1)) (kk : W p l e R s m args below meth c H locs cells slots Q (F0 m (pc + 1) ls (.int (nI (k + 2)) :: rest))) : W p l e R s m args below meth c H locs cells slots Q (F0 m pc ls (.int 2 :: .int (nI k) :: rest)) := by
  refine lv_iadd hexec hb hdg ?_
  rw [show nI k + 2 = nI (k + 2) from nI_add k 2]
  exact kk
section LO
variable {p : Program} {l : Launch} {e : Env} {s : State} {m : MethodId} {below : List Frame} {meth : Method} {c : Code} {H : Heap} {locs : List Loc} {cells slots : Nat} {Q : State → Prop}
variable {ls : Array Slot} {D : va_G} {b L a i : Nat} {xs : Nat → Int32} {q q2 : Nat → Nat} {cA cL cB : ClassId} {S : XS} {T : MS} {f : Nat → Int64}

set_option maxHeartbeats 4000000 in
set_option maxRecDepth 100000 in
theorem lt_literal (E : lE p l s m c b L xs D cA cL cB) (hI : LI S T) (hP : va_P D vwCl (wL q cA S a cL f q2 cB T) H) (hD : va_D (aL s) (wL q cA S a cL f q2 cB T)) (hS : va_S (aL s) s.heap H locs) (hc : cells + 1 ≤ room_1.cells) (hs6 : slots + 6 ≤ room_1.slots) (kk : lK p l e s m below meth c Q b D q q2 cA cL cB a i cells slots) {r5 r6 : Int32} (hl : lv_has ls 7 [(6, .int r6), (5, .int r5), (4, .int (nI (3 * i))), (3, .ref a), (2, .ref (q2 0)), (1, .ref (q 0)), (0, .ref b)]) (h5 : yth T = r5) (h6 : r5 = 0 → f 0 = Int32.toInt64 r6) : W p l e room_1 s m #[Value.ref b] below meth c H locs (cells + 1) (slots + 6) Q (F0 m 137 ls []) := by
  obtain ⟨hx, hb, hml, hown, hts, hXs, hbl, hK, hX, hl9, hL⟩ := E
  have hbA : ¬ aL s b := Nat.not_le.mpr hbl
  have okS := hI.2.1
  have okT := hI.2.2.1
  refine lv_aload_n hx hb dL_law_137 rfl (lv_at hl 4 rfl) ?_
  refine xc_rv (w0 := wM q2 cB T) (As := []) (rest := []) ⟨hx, hb, hml, hown, hts⟩ (kX1_thrown l D q2 cB T okT) (cwV 0 hts (gd_V bw_282 bw_283 bw_284 bw_2 bw_285) rfl rfl rfl (by decide +kernel) ⟨Nat.le_of_ble_eq_true rfl, Nat.le_of_ble_eq_true rfl⟩) (va_recv (ci := 1) (q0 := 0) (tys := tyL cA cL cB) hK (pt_PR hP) rfl rfl) (pt_PR hP) (hK.sub [2] rfl) rfl hl.1 rfl (Nat.le_of_ble_eq_true rfl) dL_law_138 ⟨hc, hs6⟩ ?_
  refine lv_iload hx hb dL_law_141 (lv_at hl 1 rfl) ?_
  refine lv_icmp_eq (tgt := 148) hx hb dL_law_143 (by decide) (fun _ => ?_) (fun z9 => absurd h5 z9)
  refine lv_iload hx hb dL_law_148 (lv_at hl 1 rfl) ?_
  have fin : W p l e room_1 s m #[Value.ref b] below meth c H locs (cells + 1) (slots + 6) Q (F0 m 165 ls []) := by
    refine lv_goto (tgt := 674) hx hb dL_law_165 (by decide) ?_
    exact kk S T f H locs ls hI (lv_sub hl [2, 3, 4, 5, 6] rfl) hP hD hS
  refine lv_if_ne (tgt := 165) hx hb dL_law_150 (by decide) (fun _ => fin) (fun z9 => ?_)
  have z5 : r5 = 0 := by first | exact z9 | exact Classical.byContradiction z9
  refine lv_aload_n hx hb dL_law_153 rfl (lv_at hl 3 rfl) ?_
  refine lv_iconst (v := 0) hx hb dL_law_154 (by decide) ?_
  refine ls_ll hx hb hK hP dL_law_155 ?_
  refine lv_iload hx hb dL_law_156 (lv_at hl 0 rfl) ?_
  refine lv_i2l (v := Int32.toInt64 r6) hx hb dL_law_158 rfl ?_
  refine W.lcmp hx hb dL_law_159 ?_
  refine lv_if_eq (tgt := 165) hx hb dL_law_160 (by decide) (fun _ => fin) (fun z8 => absurd (by rw [h6 z5]; exact lcmp_self _) z8)

set_option maxHeartbeats 4000000 in
set_option maxRecDepth 100000 in
theorem lo_literal (E : lE p l s m c b L xs D cA cL cB) (hI : LI S T) (hP : va_P D vwCl (wL q cA S a cL f q2 cB T) H) (hD : va_D (aL s) (wL q cA S a cL f q2 cB T)) (hS : va_S (aL s) s.heap H locs) (hc : cells + 1 ≤ room_1.cells) (hs6 : slots + 6 ≤ room_1.slots) (kk : lK p l e s m below meth c Q b D q q2 cA cL cB a i cells slots) (hl : lv_has ls 7 (lvL b a i q q2)) (hi : 3 * i + 3 ≤ L) : W p l e room_1 s m #[Value.ref b] below meth c H locs cells slots Q (F0 m 112 ls []) := by
  obtain ⟨hx, hb, hml, hown, hts, hXs, hbl, hK, hX, hl9, hL⟩ := E
  have hbA : ¬ aL s b := Nat.not_le.mpr hbl
  have okS := hI.2.1
  have okT := hI.2.2.1
  have hl : lv_has ls 7 [(4, .int (nI (3 * i))), (3, .ref a), (2, .ref (q2 0)), (1, .ref (q 0)), (0, .ref b)] := hl
  obtain ⟨x, hxx⟩ : ∃ x, x = xs (3 * i + 1) := ⟨_, rfl⟩
  cases h9 : k_isL x
  · have h9 : k_isL x = false := h9
    refine lv_aload_n hx hb dL_law_112 rfl (lv_at hl 3 rfl) ?_
    refine lv_aload_n hx hb dL_law_113 rfl (lv_at hl 4 rfl) ?_
    refine lv_iload hx hb dL_law_114 (lv_at hl 0 rfl) ?_
    refine lv_iconst (v := 1) hx hb dL_law_116 (by decide) ?_
    refine xi_inc hx hb dL_law_117 ?_
    refine ls_ld hx hb hXs hbl hbA hS (3 * i + 1) (by omega) hL dL_law_118 ?_
    rw [← hxx]
    refine lv_aload_n hx hb dL_law_119 rfl (lv_at hl 1 rfl) ?_
    refine ls_h (As := [.ref (q 0), .int x, .ref a]) (rest := []) ⟨hx, hb, hml, hown, hts⟩ (hL_literal_no l D q cA cL a f S okS hl9 x h9 _) (vx_cwSW 3 hts (gd_SW bw_87 bw_88 bw_0 bw_519) rfl rfl rfl (by decide +kernel) ⟨Nat.le_of_ble_eq_true rfl, Nat.le_of_ble_eq_true rfl⟩) hX hK hP hD hS rfl hl.1 rfl (Nat.le_of_ble_eq_true rfl) dL_law_120 ⟨hc, hs6⟩ (fun r5 z H locs hz hP hD hS => ?_)
    refine lv_istore (lv' := [(5, .int r5), (4, .int (nI (3 * i))), (3, .ref a), (2, .ref (q2 0)), (1, .ref (q 0)), (0, .ref b)]) hx hb dL_law_123 hl (by decide) rfl (fun ls hl => ?_)
    refine lv_aload_n hx hb dL_law_125 rfl (lv_at hl 3 rfl) ?_
    refine lv_aload_n hx hb dL_law_126 rfl (lv_at hl 5 rfl) ?_
    refine lv_iload hx hb dL_law_127 (lv_at hl 1 rfl) ?_
    refine lv_iconst (v := 1) hx hb dL_law_129 (by decide) ?_
    refine xi_inc hx hb dL_law_130 ?_
    refine ls_ld hx hb hXs hbl hbA hS (3 * i + 1) (by omega) hL dL_law_131 ?_
    rw [← hxx]
    refine ls_m (As := [.int x]) (rest := []) ⟨hx, hb, hml, hown, hts⟩ (kX1_literal_no l D q2 cB T okT x h9 _) (cwV 1 hts (gd_V bw_286 bw_287 bw_288 bw_2 bw_289) rfl rfl rfl (by decide +kernel) ⟨Nat.le_of_ble_eq_true rfl, Nat.le_of_ble_eq_true rfl⟩) hK hP hD hS rfl hl.1 rfl (Nat.le_of_ble_eq_true rfl) dL_law_132 ⟨hc, hs6⟩ (fun r6 u H locs hu hP hD hS => ?_)
    refine lv_istore (lv' := [(6, .int r6), (5, .int r5), (4, .int (nI (3 * i))), (3, .ref a), (2, .ref (q2 0)), (1, .ref (q 0)), (0, .ref b)]) hx hb dL_law_135 hl (by decide) rfl (fun ls hl => ?_)
    obtain ⟨z5, z1⟩ := hz
    obtain ⟨-, u1⟩ := hu
    have tI : LI z.1 u := by rw [z1, u1]; exact hI.th 1
    have t5 : yth u = r5 := by rw [u1, z5]
    have t6 : r5 = 0 → z.2 0 = Int32.toInt64 r6 := fun y => absurd (z5.symm.trans y) (by decide)
    exact lt_literal (S := z.1) (T := u) (f := z.2) ⟨hx, hb, hml, hown, hts, hXs, hbl, hK, hX, hl9, hL⟩ tI hP hD hS hc hs6 kk hl t5 t6
  · have h9 : k_isL x = true := h9
    refine lv_aload_n hx hb dL_law_112 rfl (lv_at hl 3 rfl) ?_
    refine lv_aload_n hx hb dL_law_113 rfl (lv_at hl 4 rfl) ?_
    refine lv_iload hx hb dL_law_114 (lv_at hl 0 rfl) ?_
    refine lv_iconst (v := 1) hx hb dL_law_116 (by decide) ?_
    refine xi_inc hx hb dL_law_117 ?_
    refine ls_ld hx hb hXs hbl hbA hS (3 * i + 1) (by omega) hL dL_law_118 ?_
    rw [← hxx]
    refine lv_aload_n hx hb dL_law_119 rfl (lv_at hl 1 rfl) ?_
    refine ls_h (As := [.ref (q 0), .int x, .ref a]) (rest := []) ⟨hx, hb, hml, hown, hts⟩ (hL_literal_ok l D q cA cL a f S okS hl9 x h9 _) (vx_cwSW 3 hts (gd_SW bw_87 bw_88 bw_0 bw_519) rfl rfl rfl (by decide +kernel) ⟨Nat.le_of_ble_eq_true rfl, Nat.le_of_ble_eq_true rfl⟩) hX hK hP hD hS rfl hl.1 rfl (Nat.le_of_ble_eq_true rfl) dL_law_120 ⟨hc, hs6⟩ (fun r5 z H locs hz hP hD hS => ?_)
    refine lv_istore (lv' := [(5, .int r5), (4, .int (nI (3 * i))), (3, .ref a), (2, .ref (q2 0)), (1, .ref (q 0)), (0, .ref b)]) hx hb dL_law_123 hl (by decide) rfl (fun ls hl => ?_)
    refine lv_aload_n hx hb dL_law_125 rfl (lv_at hl 3 rfl) ?_
    refine lv_aload_n hx hb dL_law_126 rfl (lv_at hl 5 rfl) ?_
    refine lv_iload hx hb dL_law_127 (lv_at hl 1 rfl) ?_
    refine lv_iconst (v := 1) hx hb dL_law_129 (by decide) ?_
    refine xi_inc hx hb dL_law_130 ?_
    refine ls_ld hx hb hXs hbl hbA hS (3 * i + 1) (by omega) hL dL_law_131 ?_
    rw [← hxx]
    refine ls_m (As := [.int x]) (rest := []) ⟨hx, hb, hml, hown, hts⟩ (kX1_literal_ok l D q2 cB T okT x h9 _) (cwV 1 hts (gd_V bw_286 bw_287 bw_288 bw_2 bw_289) rfl rfl rfl (by decide +kernel) ⟨Nat.le_of_ble_eq_true rfl, Nat.le_of_ble_eq_true rfl⟩) hK hP hD hS rfl hl.1 rfl (Nat.le_of_ble_eq_true rfl) dL_law_132 ⟨hc, hs6⟩ (fun r6 u H locs hu hP hD hS => ?_)
    refine lv_istore (lv' := [(6, .int r6), (5, .int r5), (4, .int (nI (3 * i))), (3, .ref a), (2, .ref (q2 0)), (1, .ref (q 0)), (0, .ref b)]) hx hb dL_law_135 hl (by decide) rfl (fun ls hl => ?_)
    obtain ⟨z5, r1, z2, z3, z1⟩ := hz
    obtain ⟨u6, u1⟩ := hu
    have tt := hI.lit h9 0
    have tI : LI z.1 u := by rw [z1, u1]; exact tt.2
    have t5 : yth u = r5 := by rw [u1, z5]
    have t6 : r5 = 0 → z.2 0 = Int32.toInt64 r6 := fun _ => by rw [z2, z3, tt.1, u6]
    exact lt_literal (S := z.1) (T := u) (f := z.2) ⟨hx, hb, hml, hown, hts, hXs, hbl, hK, hX, hl9, hL⟩ tI hP hD hS hc hs6 kk hl t5 t6

set_option maxHeartbeats 4000000 in
set_option maxRecDepth 100000 in
theorem lt_clause (E : lE p l s m c b L xs D cA cL cB) (hI : LI S T) (hP : va_P D vwCl (wL q cA S a cL f q2 cB T) H) (hD : va_D (aL s) (wL q cA S a cL f q2 cB T)) (hS : va_S (aL s) s.heap H locs) (hc : cells + 1 ≤ room_1.cells) (hs6 : slots + 6 ≤ room_1.slots) (kk : lK p l e s m below meth c Q b D q q2 cA cL cB a i cells slots) {r5 r6 : Int32} (hl : lv_has ls 7 [(6, .int r6), (5, .int r5), (4, .int (nI (3 * i))), (3, .ref a), (2, .ref (q2 0)), (1, .ref (q 0)), (0, .ref b)]) (h5 : yth T = r5) (h6 : r5 = 0 → f 0 = Int32.toInt64 r6) : W p l e room_1 s m #[Value.ref b] below meth c H locs (cells + 1) (slots + 6) Q (F0 m 375 ls []) := by
  obtain ⟨hx, hb, hml, hown, hts, hXs, hbl, hK, hX, hl9, hL⟩ := E
  have hbA : ¬ aL s b := Nat.not_le.mpr hbl
  have okS := hI.2.1
  have okT := hI.2.2.1
  refine lv_aload_n hx hb dL_law_375 rfl (lv_at hl 4 rfl) ?_
  refine xc_rv (w0 := wM q2 cB T) (As := []) (rest := []) ⟨hx, hb, hml, hown, hts⟩ (kX1_thrown l D q2 cB T okT) (cwV 0 hts (gd_V bw_282 bw_283 bw_284 bw_2 bw_285) rfl rfl rfl (by decide +kernel) ⟨Nat.le_of_ble_eq_true rfl, Nat.le_of_ble_eq_true rfl⟩) (va_recv (ci := 1) (q0 := 0) (tys := tyL cA cL cB) hK (pt_PR hP) rfl rfl) (pt_PR hP) (hK.sub [2] rfl) rfl hl.1 rfl (Nat.le_of_ble_eq_true rfl) dL_law_376 ⟨hc, hs6⟩ ?_
  refine lv_iload hx hb dL_law_379 (lv_at hl 1 rfl) ?_
  refine lv_icmp_eq (tgt := 386) hx hb dL_law_381 (by decide) (fun _ => ?_) (fun z9 => absurd h5 z9)
  refine lv_iload hx hb dL_law_386 (lv_at hl 1 rfl) ?_
  have fin : W p l e room_1 s m #[Value.ref b] below meth c H locs (cells + 1) (slots + 6) Q (F0 m 403 ls []) := by
    refine lv_goto (tgt := 674) hx hb dL_law_403 (by decide) ?_
    exact kk S T f H locs ls hI (lv_sub hl [2, 3, 4, 5, 6] rfl) hP hD hS
  refine lv_if_ne (tgt := 403) hx hb dL_law_388 (by decide) (fun _ => fin) (fun z9 => ?_)
  have z5 : r5 = 0 := by first | exact z9 | exact Classical.byContradiction z9
  refine lv_aload_n hx hb dL_law_391 rfl (lv_at hl 3 rfl) ?_
  refine lv_iconst (v := 0) hx hb dL_law_392 (by decide) ?_
  refine ls_ll hx hb hK hP dL_law_393 ?_
  refine lv_iload hx hb dL_law_394 (lv_at hl 0 rfl) ?_
  refine lv_i2l (v := Int32.toInt64 r6) hx hb dL_law_396 rfl ?_
  refine W.lcmp hx hb dL_law_397 ?_
  refine lv_if_eq (tgt := 403) hx hb dL_law_398 (by decide) (fun _ => fin) (fun z8 => absurd (by rw [h6 z5]; exact lcmp_self _) z8)

set_option maxHeartbeats 4000000 in
set_option maxRecDepth 100000 in
theorem lo_clause (E : lE p l s m c b L xs D cA cL cB) (hI : LI S T) (hP : va_P D vwCl (wL q cA S a cL f q2 cB T) H) (hD : va_D (aL s) (wL q cA S a cL f q2 cB T)) (hS : va_S (aL s) s.heap H locs) (hc : cells + 1 ≤ room_1.cells) (hs6 : slots + 6 ≤ room_1.slots) (kk : lK p l e s m below meth c Q b D q q2 cA cL cB a i cells slots) (hl : lv_has ls 7 (lvL b a i q q2)) (hi : 3 * i + 3 ≤ L) : W p l e room_1 s m #[Value.ref b] below meth c H locs cells slots Q (F0 m 350 ls []) := by
  obtain ⟨hx, hb, hml, hown, hts, hXs, hbl, hK, hX, hl9, hL⟩ := E
  have hbA : ¬ aL s b := Nat.not_le.mpr hbl
  have okS := hI.2.1
  have okT := hI.2.2.1
  have hl : lv_has ls 7 [(4, .int (nI (3 * i))), (3, .ref a), (2, .ref (q2 0)), (1, .ref (q 0)), (0, .ref b)] := hl
  obtain ⟨x, hxx⟩ : ∃ x, x = xs (3 * i + 1) := ⟨_, rfl⟩
  rcases pk_ix x (n := xn S) (by have z := okS.1; omega) with h9 | h9 | ⟨k, hk9, hk⟩
  · refine lv_aload_n hx hb dL_law_350 rfl (lv_at hl 3 rfl) ?_
    refine lv_aload_n hx hb dL_law_351 rfl (lv_at hl 4 rfl) ?_
    refine lv_iload hx hb dL_law_352 (lv_at hl 0 rfl) ?_
    refine lv_iconst (v := 1) hx hb dL_law_354 (by decide) ?_
    refine xi_inc hx hb dL_law_355 ?_
    refine ls_ld hx hb hXs hbl hbA hS (3 * i + 1) (by omega) hL dL_law_356 ?_
    rw [← hxx]
    refine lv_aload_n hx hb dL_law_357 rfl (lv_at hl 1 rfl) ?_
    refine ls_h (As := [.ref (q 0), .int x, .ref a]) (rest := []) ⟨hx, hb, hml, hown, hts⟩ (hL_clause_no l D q cA cL a f S okS hl9 x (Or.inl h9) _) (vx_cwSW 3 hts (gd_SW bw_221 bw_222 bw_0 bw_523) rfl rfl rfl (by decide +kernel) ⟨Nat.le_of_ble_eq_true rfl, Nat.le_of_ble_eq_true rfl⟩) hX hK hP hD hS rfl hl.1 rfl (Nat.le_of_ble_eq_true rfl) dL_law_358 ⟨hc, hs6⟩ (fun r5 z H locs hz hP hD hS => ?_)
    refine lv_istore (lv' := [(5, .int r5), (4, .int (nI (3 * i))), (3, .ref a), (2, .ref (q2 0)), (1, .ref (q 0)), (0, .ref b)]) hx hb dL_law_361 hl (by decide) rfl (fun ls hl => ?_)
    refine lv_aload_n hx hb dL_law_363 rfl (lv_at hl 3 rfl) ?_
    refine lv_aload_n hx hb dL_law_364 rfl (lv_at hl 5 rfl) ?_
    refine lv_iload hx hb dL_law_365 (lv_at hl 1 rfl) ?_
    refine lv_iconst (v := 1) hx hb dL_law_367 (by decide) ?_
    refine xi_inc hx hb dL_law_368 ?_
    refine ls_ld hx hb hXs hbl hbA hS (3 * i + 1) (by omega) hL dL_law_369 ?_
    rw [← hxx]
    refine ls_m (As := [.int x]) (rest := []) ⟨hx, hb, hml, hown, hts⟩ (kX1_clause_no l D q2 cB T okT x (Or.inl h9) _) (cwV 1 hts (gd_V bw_370 bw_371 bw_372 bw_2 bw_373) rfl rfl rfl (by decide +kernel) ⟨Nat.le_of_ble_eq_true rfl, Nat.le_of_ble_eq_true rfl⟩) hK hP hD hS rfl hl.1 rfl (Nat.le_of_ble_eq_true rfl) dL_law_370 ⟨hc, hs6⟩ (fun r6 u H locs hu hP hD hS => ?_)
    refine lv_istore (lv' := [(6, .int r6), (5, .int r5), (4, .int (nI (3 * i))), (3, .ref a), (2, .ref (q2 0)), (1, .ref (q 0)), (0, .ref b)]) hx hb dL_law_373 hl (by decide) rfl (fun ls hl => ?_)
    obtain ⟨z5, z1⟩ := hz
    obtain ⟨-, u1⟩ := hu
    have tI : LI z.1 u := by rw [z1, u1]; exact hI.th 1
    have t5 : yth u = r5 := by rw [u1, z5]
    have t6 : r5 = 0 → z.2 0 = Int32.toInt64 r6 := fun y => absurd (z5.symm.trans y) (by decide)
    exact lt_clause (S := z.1) (T := u) (f := z.2) ⟨hx, hb, hml, hown, hts, hXs, hbl, hK, hX, hl9, hL⟩ tI hP hD hS hc hs6 kk hl t5 t6
  · refine lv_aload_n hx hb dL_law_350 rfl (lv_at hl 3 rfl) ?_
    refine lv_aload_n hx hb dL_law_351 rfl (lv_at hl 4 rfl) ?_
    refine lv_iload hx hb dL_law_352 (lv_at hl 0 rfl) ?_
    refine lv_iconst (v := 1) hx hb dL_law_354 (by decide) ?_
    refine xi_inc hx hb dL_law_355 ?_
    refine ls_ld hx hb hXs hbl hbA hS (3 * i + 1) (by omega) hL dL_law_356 ?_
    rw [← hxx]
    refine lv_aload_n hx hb dL_law_357 rfl (lv_at hl 1 rfl) ?_
    refine ls_h (As := [.ref (q 0), .int x, .ref a]) (rest := []) ⟨hx, hb, hml, hown, hts⟩ (hL_clause_no l D q cA cL a f S okS hl9 x (Or.inr h9) _) (vx_cwSW 3 hts (gd_SW bw_221 bw_222 bw_0 bw_523) rfl rfl rfl (by decide +kernel) ⟨Nat.le_of_ble_eq_true rfl, Nat.le_of_ble_eq_true rfl⟩) hX hK hP hD hS rfl hl.1 rfl (Nat.le_of_ble_eq_true rfl) dL_law_358 ⟨hc, hs6⟩ (fun r5 z H locs hz hP hD hS => ?_)
    refine lv_istore (lv' := [(5, .int r5), (4, .int (nI (3 * i))), (3, .ref a), (2, .ref (q2 0)), (1, .ref (q 0)), (0, .ref b)]) hx hb dL_law_361 hl (by decide) rfl (fun ls hl => ?_)
    refine lv_aload_n hx hb dL_law_363 rfl (lv_at hl 3 rfl) ?_
    refine lv_aload_n hx hb dL_law_364 rfl (lv_at hl 5 rfl) ?_
    refine lv_iload hx hb dL_law_365 (lv_at hl 1 rfl) ?_
    refine lv_iconst (v := 1) hx hb dL_law_367 (by decide) ?_
    refine xi_inc hx hb dL_law_368 ?_
    refine ls_ld hx hb hXs hbl hbA hS (3 * i + 1) (by omega) hL dL_law_369 ?_
    rw [← hxx]
    refine ls_m (As := [.int x]) (rest := []) ⟨hx, hb, hml, hown, hts⟩ (kX1_clause_no l D q2 cB T okT x (Or.inr (by rw [hI.n]; exact h9)) _) (cwV 1 hts (gd_V bw_370 bw_371 bw_372 bw_2 bw_373) rfl rfl rfl (by decide +kernel) ⟨Nat.le_of_ble_eq_true rfl, Nat.le_of_ble_eq_true rfl⟩) hK hP hD hS rfl hl.1 rfl (Nat.le_of_ble_eq_true rfl) dL_law_370 ⟨hc, hs6⟩ (fun r6 u H locs hu hP hD hS => ?_)
    refine lv_istore (lv' := [(6, .int r6), (5, .int r5), (4, .int (nI (3 * i))), (3, .ref a), (2, .ref (q2 0)), (1, .ref (q 0)), (0, .ref b)]) hx hb dL_law_373 hl (by decide) rfl (fun ls hl => ?_)
    obtain ⟨z5, z1⟩ := hz
    obtain ⟨-, u1⟩ := hu
    have tI : LI z.1 u := by rw [z1, u1]; exact hI.th 1
    have t5 : yth u = r5 := by rw [u1, z5]
    have t6 : r5 = 0 → z.2 0 = Int32.toInt64 r6 := fun y => absurd (z5.symm.trans y) (by decide)
    exact lt_clause (S := z.1) (T := u) (f := z.2) ⟨hx, hb, hml, hown, hts, hXs, hbl, hK, hX, hl9, hL⟩ tI hP hD hS hc hs6 kk hl t5 t6
  · refine lv_aload_n hx hb dL_law_350 rfl (lv_at hl 3 rfl) ?_
    refine lv_aload_n hx hb dL_law_351 rfl (lv_at hl 4 rfl) ?_
    refine lv_iload hx hb dL_law_352 (lv_at hl 0 rfl) ?_
    refine lv_iconst (v := 1) hx hb dL_law_354 (by decide) ?_
    refine xi_inc hx hb dL_law_355 ?_
    refine ls_ld hx hb hXs hbl hbA hS (3 * i + 1) (by omega) hL dL_law_356 ?_
    rw [← hxx]
    refine lv_aload_n hx hb dL_law_357 rfl (lv_at hl 1 rfl) ?_
    refine ls_h (As := [.ref (q 0), .int (nI k), .ref a]) (rest := []) ⟨hx, hb, hml, hown, hts⟩ (hL_clause_ok l D q cA cL a f S okS hl9 k hk9 _) (vx_cwSW 3 hts (gd_SW bw_221 bw_222 bw_0 bw_523) rfl rfl rfl (by decide +kernel) ⟨Nat.le_of_ble_eq_true rfl, Nat.le_of_ble_eq_true rfl⟩) hX hK hP hD hS rfl hl.1 (by subst hk; rfl) (Nat.le_of_ble_eq_true rfl) dL_law_358 ⟨hc, hs6⟩ (fun r5 z H locs hz hP hD hS => ?_)
    refine lv_istore (lv' := [(5, .int r5), (4, .int (nI (3 * i))), (3, .ref a), (2, .ref (q2 0)), (1, .ref (q 0)), (0, .ref b)]) hx hb dL_law_361 hl (by decide) rfl (fun ls hl => ?_)
    refine lv_aload_n hx hb dL_law_363 rfl (lv_at hl 3 rfl) ?_
    refine lv_aload_n hx hb dL_law_364 rfl (lv_at hl 5 rfl) ?_
    refine lv_iload hx hb dL_law_365 (lv_at hl 1 rfl) ?_
    refine lv_iconst (v := 1) hx hb dL_law_367 (by decide) ?_
    refine xi_inc hx hb dL_law_368 ?_
    refine ls_ld hx hb hXs hbl hbA hS (3 * i + 1) (by omega) hL dL_law_369 ?_
    rw [← hxx]
    refine ls_m (As := [.int (nI k)]) (rest := []) ⟨hx, hb, hml, hown, hts⟩ (kX1_clause_ok l D q2 cB T okT k (by rw [hI.n]; exact hk9) _) (cwV 1 hts (gd_V bw_370 bw_371 bw_372 bw_2 bw_373) rfl rfl rfl (by decide +kernel) ⟨Nat.le_of_ble_eq_true rfl, Nat.le_of_ble_eq_true rfl⟩) hK hP hD hS rfl hl.1 (by subst hk; rfl) (Nat.le_of_ble_eq_true rfl) dL_law_370 ⟨hc, hs6⟩ (fun r6 u H locs hu hP hD hS => ?_)
    refine lv_istore (lv' := [(6, .int r6), (5, .int r5), (4, .int (nI (3 * i))), (3, .ref a), (2, .ref (q2 0)), (1, .ref (q 0)), (0, .ref b)]) hx hb dL_law_373 hl (by decide) rfl (fun ls hl => ?_)
    obtain ⟨z5, z2, z1⟩ := hz
    obtain ⟨u6, u1⟩ := hu
    have tI : LI z.1 u := by rw [z1, u1]; exact hI.th 0
    have t5 : yth u = r5 := by rw [u1, z5]
    have t6 : r5 = 0 → z.2 0 = Int32.toInt64 r6 := fun _ => by rw [z2, (hI.at hk9).1, u6]
    exact lt_clause (S := z.1) (T := u) (f := z.2) ⟨hx, hb, hml, hown, hts, hXs, hbl, hK, hX, hl9, hL⟩ tI hP hD hS hc hs6 kk hl t5 t6

set_option maxHeartbeats 4000000 in
set_option maxRecDepth 100000 in
theorem lt_number (E : lE p l s m c b L xs D cA cL cB) (hI : LI S T) (hP : va_P D vwCl (wL q cA S a cL f q2 cB T) H) (hD : va_D (aL s) (wL q cA S a cL f q2 cB T)) (hS : va_S (aL s) s.heap H locs) (hc : cells + 1 ≤ room_1.cells) (hs6 : slots + 6 ≤ room_1.slots) (kk : lK p l e s m below meth c Q b D q q2 cA cL cB a i cells slots) {r5 r6 : Int32} (hl : lv_has ls 7 [(6, .int r6), (5, .int r5), (4, .int (nI (3 * i))), (3, .ref a), (2, .ref (q2 0)), (1, .ref (q 0)), (0, .ref b)]) (h5 : yth T = r5) (h6 : r5 = 0 → f 0 = Int32.toInt64 r6) : W p l e room_1 s m #[Value.ref b] below meth c H locs (cells + 1) (slots + 6) Q (F0 m 431 ls []) := by
  obtain ⟨hx, hb, hml, hown, hts, hXs, hbl, hK, hX, hl9, hL⟩ := E
  have hbA : ¬ aL s b := Nat.not_le.mpr hbl
  have okS := hI.2.1
  have okT := hI.2.2.1
  refine lv_aload_n hx hb dL_law_431 rfl (lv_at hl 4 rfl) ?_
  refine xc_rv (w0 := wM q2 cB T) (As := []) (rest := []) ⟨hx, hb, hml, hown, hts⟩ (kX1_thrown l D q2 cB T okT) (cwV 0 hts (gd_V bw_282 bw_283 bw_284 bw_2 bw_285) rfl rfl rfl (by decide +kernel) ⟨Nat.le_of_ble_eq_true rfl, Nat.le_of_ble_eq_true rfl⟩) (va_recv (ci := 1) (q0 := 0) (tys := tyL cA cL cB) hK (pt_PR hP) rfl rfl) (pt_PR hP) (hK.sub [2] rfl) rfl hl.1 rfl (Nat.le_of_ble_eq_true rfl) dL_law_432 ⟨hc, hs6⟩ ?_
  refine lv_iload hx hb dL_law_435 (lv_at hl 1 rfl) ?_
  refine lv_icmp_eq (tgt := 442) hx hb dL_law_437 (by decide) (fun _ => ?_) (fun z9 => absurd h5 z9)
  refine lv_iload hx hb dL_law_442 (lv_at hl 1 rfl) ?_
  have fin : W p l e room_1 s m #[Value.ref b] below meth c H locs (cells + 1) (slots + 6) Q (F0 m 459 ls []) := by
    refine lv_goto (tgt := 674) hx hb dL_law_459 (by decide) ?_
    exact kk S T f H locs ls hI (lv_sub hl [2, 3, 4, 5, 6] rfl) hP hD hS
  refine lv_if_ne (tgt := 459) hx hb dL_law_444 (by decide) (fun _ => fin) (fun z9 => ?_)
  have z5 : r5 = 0 := by first | exact z9 | exact Classical.byContradiction z9
  refine lv_aload_n hx hb dL_law_447 rfl (lv_at hl 3 rfl) ?_
  refine lv_iconst (v := 0) hx hb dL_law_448 (by decide) ?_
  refine ls_ll hx hb hK hP dL_law_449 ?_
  refine lv_iload hx hb dL_law_450 (lv_at hl 0 rfl) ?_
  refine lv_i2l (v := Int32.toInt64 r6) hx hb dL_law_452 rfl ?_
  refine W.lcmp hx hb dL_law_453 ?_
  refine lv_if_eq (tgt := 459) hx hb dL_law_454 (by decide) (fun _ => fin) (fun z8 => absurd (by rw [h6 z5]; exact lcmp_self _) z8)

set_option maxHeartbeats 4000000 in
set_option maxRecDepth 100000 in
theorem lo_number (E : lE p l s m c b L xs D cA cL cB) (hI : LI S T) (hP : va_P D vwCl (wL q cA S a cL f q2 cB T) H) (hD : va_D (aL s) (wL q cA S a cL f q2 cB T)) (hS : va_S (aL s) s.heap H locs) (hc : cells + 1 ≤ room_1.cells) (hs6 : slots + 6 ≤ room_1.slots) (kk : lK p l e s m below meth c Q b D q q2 cA cL cB a i cells slots) (hl : lv_has ls 7 (lvL b a i q q2)) (hi : 3 * i + 3 ≤ L) : W p l e room_1 s m #[Value.ref b] below meth c H locs cells slots Q (F0 m 406 ls []) := by
  obtain ⟨hx, hb, hml, hown, hts, hXs, hbl, hK, hX, hl9, hL⟩ := E
  have hbA : ¬ aL s b := Nat.not_le.mpr hbl
  have okS := hI.2.1
  have okT := hI.2.2.1
  have hl : lv_has ls 7 [(4, .int (nI (3 * i))), (3, .ref a), (2, .ref (q2 0)), (1, .ref (q 0)), (0, .ref b)] := hl
  obtain ⟨x, hxx⟩ : ∃ x, x = xs (3 * i + 1) := ⟨_, rfl⟩
  rcases pk_ix x (n := xn S) (by have z := okS.1; omega) with h9 | h9 | ⟨k, hk9, hk⟩
  · refine lv_aload_n hx hb dL_law_406 rfl (lv_at hl 3 rfl) ?_
    refine lv_aload_n hx hb dL_law_407 rfl (lv_at hl 4 rfl) ?_
    refine lv_iload hx hb dL_law_408 (lv_at hl 0 rfl) ?_
    refine lv_iconst (v := 1) hx hb dL_law_410 (by decide) ?_
    refine xi_inc hx hb dL_law_411 ?_
    refine ls_ld hx hb hXs hbl hbA hS (3 * i + 1) (by omega) hL dL_law_412 ?_
    rw [← hxx]
    refine lv_aload_n hx hb dL_law_413 rfl (lv_at hl 1 rfl) ?_
    refine ls_h (As := [.ref (q 0), .int x, .ref a]) (rest := []) ⟨hx, hb, hml, hown, hts⟩ (hL_number_no l D q cA cL a f S okS hl9 x (Or.inl h9) _) (vx_cwSW 3 hts (gd_SW bw_230 bw_231 bw_0 bw_524) rfl rfl rfl (by decide +kernel) ⟨Nat.le_of_ble_eq_true rfl, Nat.le_of_ble_eq_true rfl⟩) hX hK hP hD hS rfl hl.1 rfl (Nat.le_of_ble_eq_true rfl) dL_law_414 ⟨hc, hs6⟩ (fun r5 z H locs hz hP hD hS => ?_)
    refine lv_istore (lv' := [(5, .int r5), (4, .int (nI (3 * i))), (3, .ref a), (2, .ref (q2 0)), (1, .ref (q 0)), (0, .ref b)]) hx hb dL_law_417 hl (by decide) rfl (fun ls hl => ?_)
    refine lv_aload_n hx hb dL_law_419 rfl (lv_at hl 3 rfl) ?_
    refine lv_aload_n hx hb dL_law_420 rfl (lv_at hl 5 rfl) ?_
    refine lv_iload hx hb dL_law_421 (lv_at hl 1 rfl) ?_
    refine lv_iconst (v := 1) hx hb dL_law_423 (by decide) ?_
    refine xi_inc hx hb dL_law_424 ?_
    refine ls_ld hx hb hXs hbl hbA hS (3 * i + 1) (by omega) hL dL_law_425 ?_
    rw [← hxx]
    refine ls_m (As := [.int x]) (rest := []) ⟨hx, hb, hml, hown, hts⟩ (kX1_number_no l D q2 cB T okT x (Or.inl h9) _) (cwV 1 hts (gd_V bw_374 bw_375 bw_376 bw_2 bw_377) rfl rfl rfl (by decide +kernel) ⟨Nat.le_of_ble_eq_true rfl, Nat.le_of_ble_eq_true rfl⟩) hK hP hD hS rfl hl.1 rfl (Nat.le_of_ble_eq_true rfl) dL_law_426 ⟨hc, hs6⟩ (fun r6 u H locs hu hP hD hS => ?_)
    refine lv_istore (lv' := [(6, .int r6), (5, .int r5), (4, .int (nI (3 * i))), (3, .ref a), (2, .ref (q2 0)), (1, .ref (q 0)), (0, .ref b)]) hx hb dL_law_429 hl (by decide) rfl (fun ls hl => ?_)
    obtain ⟨z5, z1⟩ := hz
    obtain ⟨-, u1⟩ := hu
    have tI : LI z.1 u := by rw [z1, u1]; exact hI.th 1
    have t5 : yth u = r5 := by rw [u1, z5]
    have t6 : r5 = 0 → z.2 0 = Int32.toInt64 r6 := fun y => absurd (z5.symm.trans y) (by decide)
    exact lt_number (S := z.1) (T := u) (f := z.2) ⟨hx, hb, hml, hown, hts, hXs, hbl, hK, hX, hl9, hL⟩ tI hP hD hS hc hs6 kk hl t5 t6
  · refine lv_aload_n hx hb dL_law_406 rfl (lv_at hl 3 rfl) ?_
    refine lv_aload_n hx hb dL_law_407 rfl (lv_at hl 4 rfl) ?_
    refine lv_iload hx hb dL_law_408 (lv_at hl 0 rfl) ?_
    refine lv_iconst (v := 1) hx hb dL_law_410 (by decide) ?_
    refine xi_inc hx hb dL_law_411 ?_
    refine ls_ld hx hb hXs hbl hbA hS (3 * i + 1) (by omega) hL dL_law_412 ?_
    rw [← hxx]
    refine lv_aload_n hx hb dL_law_413 rfl (lv_at hl 1 rfl) ?_
    refine ls_h (As := [.ref (q 0), .int x, .ref a]) (rest := []) ⟨hx, hb, hml, hown, hts⟩ (hL_number_no l D q cA cL a f S okS hl9 x (Or.inr h9) _) (vx_cwSW 3 hts (gd_SW bw_230 bw_231 bw_0 bw_524) rfl rfl rfl (by decide +kernel) ⟨Nat.le_of_ble_eq_true rfl, Nat.le_of_ble_eq_true rfl⟩) hX hK hP hD hS rfl hl.1 rfl (Nat.le_of_ble_eq_true rfl) dL_law_414 ⟨hc, hs6⟩ (fun r5 z H locs hz hP hD hS => ?_)
    refine lv_istore (lv' := [(5, .int r5), (4, .int (nI (3 * i))), (3, .ref a), (2, .ref (q2 0)), (1, .ref (q 0)), (0, .ref b)]) hx hb dL_law_417 hl (by decide) rfl (fun ls hl => ?_)
    refine lv_aload_n hx hb dL_law_419 rfl (lv_at hl 3 rfl) ?_
    refine lv_aload_n hx hb dL_law_420 rfl (lv_at hl 5 rfl) ?_
    refine lv_iload hx hb dL_law_421 (lv_at hl 1 rfl) ?_
    refine lv_iconst (v := 1) hx hb dL_law_423 (by decide) ?_
    refine xi_inc hx hb dL_law_424 ?_
    refine ls_ld hx hb hXs hbl hbA hS (3 * i + 1) (by omega) hL dL_law_425 ?_
    rw [← hxx]
    refine ls_m (As := [.int x]) (rest := []) ⟨hx, hb, hml, hown, hts⟩ (kX1_number_no l D q2 cB T okT x (Or.inr (by rw [hI.n]; exact h9)) _) (cwV 1 hts (gd_V bw_374 bw_375 bw_376 bw_2 bw_377) rfl rfl rfl (by decide +kernel) ⟨Nat.le_of_ble_eq_true rfl, Nat.le_of_ble_eq_true rfl⟩) hK hP hD hS rfl hl.1 rfl (Nat.le_of_ble_eq_true rfl) dL_law_426 ⟨hc, hs6⟩ (fun r6 u H locs hu hP hD hS => ?_)
    refine lv_istore (lv' := [(6, .int r6), (5, .int r5), (4, .int (nI (3 * i))), (3, .ref a), (2, .ref (q2 0)), (1, .ref (q 0)), (0, .ref b)]) hx hb dL_law_429 hl (by decide) rfl (fun ls hl => ?_)
    obtain ⟨z5, z1⟩ := hz
    obtain ⟨-, u1⟩ := hu
    have tI : LI z.1 u := by rw [z1, u1]; exact hI.th 1
    have t5 : yth u = r5 := by rw [u1, z5]
    have t6 : r5 = 0 → z.2 0 = Int32.toInt64 r6 := fun y => absurd (z5.symm.trans y) (by decide)
    exact lt_number (S := z.1) (T := u) (f := z.2) ⟨hx, hb, hml, hown, hts, hXs, hbl, hK, hX, hl9, hL⟩ tI hP hD hS hc hs6 kk hl t5 t6
  · refine lv_aload_n hx hb dL_law_406 rfl (lv_at hl 3 rfl) ?_
    refine lv_aload_n hx hb dL_law_407 rfl (lv_at hl 4 rfl) ?_
    refine lv_iload hx hb dL_law_408 (lv_at hl 0 rfl) ?_
    refine lv_iconst (v := 1) hx hb dL_law_410 (by decide) ?_
    refine xi_inc hx hb dL_law_411 ?_
    refine ls_ld hx hb hXs hbl hbA hS (3 * i + 1) (by omega) hL dL_law_412 ?_
    rw [← hxx]
    refine lv_aload_n hx hb dL_law_413 rfl (lv_at hl 1 rfl) ?_
    refine ls_h (As := [.ref (q 0), .int (nI k), .ref a]) (rest := []) ⟨hx, hb, hml, hown, hts⟩ (hL_number_ok l D q cA cL a f S okS hl9 k hk9 _) (vx_cwSW 3 hts (gd_SW bw_230 bw_231 bw_0 bw_524) rfl rfl rfl (by decide +kernel) ⟨Nat.le_of_ble_eq_true rfl, Nat.le_of_ble_eq_true rfl⟩) hX hK hP hD hS rfl hl.1 (by subst hk; rfl) (Nat.le_of_ble_eq_true rfl) dL_law_414 ⟨hc, hs6⟩ (fun r5 z H locs hz hP hD hS => ?_)
    refine lv_istore (lv' := [(5, .int r5), (4, .int (nI (3 * i))), (3, .ref a), (2, .ref (q2 0)), (1, .ref (q 0)), (0, .ref b)]) hx hb dL_law_417 hl (by decide) rfl (fun ls hl => ?_)
    refine lv_aload_n hx hb dL_law_419 rfl (lv_at hl 3 rfl) ?_
    refine lv_aload_n hx hb dL_law_420 rfl (lv_at hl 5 rfl) ?_
    refine lv_iload hx hb dL_law_421 (lv_at hl 1 rfl) ?_
    refine lv_iconst (v := 1) hx hb dL_law_423 (by decide) ?_
    refine xi_inc hx hb dL_law_424 ?_
    refine ls_ld hx hb hXs hbl hbA hS (3 * i + 1) (by omega) hL dL_law_425 ?_
    rw [← hxx]
    refine ls_m (As := [.int (nI k)]) (rest := []) ⟨hx, hb, hml, hown, hts⟩ (kX1_number_ok l D q2 cB T okT k (by rw [hI.n]; exact hk9) _) (cwV 1 hts (gd_V bw_374 bw_375 bw_376 bw_2 bw_377) rfl rfl rfl (by decide +kernel) ⟨Nat.le_of_ble_eq_true rfl, Nat.le_of_ble_eq_true rfl⟩) hK hP hD hS rfl hl.1 (by subst hk; rfl) (Nat.le_of_ble_eq_true rfl) dL_law_426 ⟨hc, hs6⟩ (fun r6 u H locs hu hP hD hS => ?_)
    refine lv_istore (lv' := [(6, .int r6), (5, .int r5), (4, .int (nI (3 * i))), (3, .ref a), (2, .ref (q2 0)), (1, .ref (q 0)), (0, .ref b)]) hx hb dL_law_429 hl (by decide) rfl (fun ls hl => ?_)
    obtain ⟨z5, z2, z1⟩ := hz
    obtain ⟨u6, u1⟩ := hu
    have tI : LI z.1 u := by rw [z1, u1]; exact hI.th 0
    have t5 : yth u = r5 := by rw [u1, z5]
    have t6 : r5 = 0 → z.2 0 = Int32.toInt64 r6 := fun _ => by rw [z2, (hI.at hk9).2, u6]
    exact lt_number (S := z.1) (T := u) (f := z.2) ⟨hx, hb, hml, hown, hts, hXs, hbl, hK, hX, hl9, hL⟩ tI hP hD hS hc hs6 kk hl t5 t6

set_option maxHeartbeats 4000000 in
set_option maxRecDepth 100000 in
theorem lt_entry (E : lE p l s m c b L xs D cA cL cB) (hI : LI S T) (hP : va_P D vwCl (wL q cA S a cL f q2 cB T) H) (hD : va_D (aL s) (wL q cA S a cL f q2 cB T)) (hS : va_S (aL s) s.heap H locs) (hc : cells + 1 ≤ room_1.cells) (hs6 : slots + 6 ≤ room_1.slots) (kk : lK p l e s m below meth c Q b D q q2 cA cL cB a i cells slots) {r5 r6 : Int32} (hl : lv_has ls 7 [(6, .int r6), (5, .int r5), (4, .int (nI (3 * i))), (3, .ref a), (2, .ref (q2 0)), (1, .ref (q 0)), (0, .ref b)]) (h5 : yth T = r5) (h6 : r5 = 0 → f 0 = Int32.toInt64 r6) : W p l e room_1 s m #[Value.ref b] below meth c H locs (cells + 1) (slots + 6) Q (F0 m 500 ls []) := by
  obtain ⟨hx, hb, hml, hown, hts, hXs, hbl, hK, hX, hl9, hL⟩ := E
  have hbA : ¬ aL s b := Nat.not_le.mpr hbl
  have okS := hI.2.1
  have okT := hI.2.2.1
  refine lv_aload_n hx hb dL_law_500 rfl (lv_at hl 4 rfl) ?_
  refine xc_rv (w0 := wM q2 cB T) (As := []) (rest := []) ⟨hx, hb, hml, hown, hts⟩ (kX1_thrown l D q2 cB T okT) (cwV 0 hts (gd_V bw_282 bw_283 bw_284 bw_2 bw_285) rfl rfl rfl (by decide +kernel) ⟨Nat.le_of_ble_eq_true rfl, Nat.le_of_ble_eq_true rfl⟩) (va_recv (ci := 1) (q0 := 0) (tys := tyL cA cL cB) hK (pt_PR hP) rfl rfl) (pt_PR hP) (hK.sub [2] rfl) rfl hl.1 rfl (Nat.le_of_ble_eq_true rfl) dL_law_501 ⟨hc, hs6⟩ ?_
  refine lv_iload hx hb dL_law_504 (lv_at hl 1 rfl) ?_
  refine lv_icmp_eq (tgt := 511) hx hb dL_law_506 (by decide) (fun _ => ?_) (fun z9 => absurd h5 z9)
  refine lv_iload hx hb dL_law_511 (lv_at hl 1 rfl) ?_
  have fin : W p l e room_1 s m #[Value.ref b] below meth c H locs (cells + 1) (slots + 6) Q (F0 m 528 ls []) := by
    refine lv_goto (tgt := 674) hx hb dL_law_528 (by decide) ?_
    exact kk S T f H locs ls hI (lv_sub hl [2, 3, 4, 5, 6] rfl) hP hD hS
  refine lv_if_ne (tgt := 528) hx hb dL_law_513 (by decide) (fun _ => fin) (fun z9 => ?_)
  have z5 : r5 = 0 := by first | exact z9 | exact Classical.byContradiction z9
  refine lv_aload_n hx hb dL_law_516 rfl (lv_at hl 3 rfl) ?_
  refine lv_iconst (v := 0) hx hb dL_law_517 (by decide) ?_
  refine ls_ll hx hb hK hP dL_law_518 ?_
  refine lv_iload hx hb dL_law_519 (lv_at hl 0 rfl) ?_
  refine lv_i2l (v := Int32.toInt64 r6) hx hb dL_law_521 rfl ?_
  refine W.lcmp hx hb dL_law_522 ?_
  refine lv_if_eq (tgt := 528) hx hb dL_law_523 (by decide) (fun _ => fin) (fun z8 => absurd (by rw [h6 z5]; exact lcmp_self _) z8)

set_option maxHeartbeats 4000000 in
set_option maxRecDepth 100000 in
theorem lo_entry (E : lE p l s m c b L xs D cA cL cB) (hI : LI S T) (hP : va_P D vwCl (wL q cA S a cL f q2 cB T) H) (hD : va_D (aL s) (wL q cA S a cL f q2 cB T)) (hS : va_S (aL s) s.heap H locs) (hc : cells + 1 ≤ room_1.cells) (hs6 : slots + 6 ≤ room_1.slots) (kk : lK p l e s m below meth c Q b D q q2 cA cL cB a i cells slots) (hl : lv_has ls 7 (lvL b a i q q2)) (hi : 3 * i + 3 ≤ L) : W p l e room_1 s m #[Value.ref b] below meth c H locs cells slots Q (F0 m 475 ls []) := by
  obtain ⟨hx, hb, hml, hown, hts, hXs, hbl, hK, hX, hl9, hL⟩ := E
  have hbA : ¬ aL s b := Nat.not_le.mpr hbl
  have okS := hI.2.1
  have okT := hI.2.2.1
  have hl : lv_has ls 7 [(4, .int (nI (3 * i))), (3, .ref a), (2, .ref (q2 0)), (1, .ref (q 0)), (0, .ref b)] := hl
  obtain ⟨x, hxx⟩ : ∃ x, x = xs (3 * i + 1) := ⟨_, rfl⟩
  rcases pk_ix x (n := xh S) (by have z := okS.2.1; omega) with h9 | h9 | ⟨k, hk9, hk⟩
  · refine lv_aload_n hx hb dL_law_475 rfl (lv_at hl 3 rfl) ?_
    refine lv_aload_n hx hb dL_law_476 rfl (lv_at hl 4 rfl) ?_
    refine lv_iload hx hb dL_law_477 (lv_at hl 0 rfl) ?_
    refine lv_iconst (v := 1) hx hb dL_law_479 (by decide) ?_
    refine xi_inc hx hb dL_law_480 ?_
    refine ls_ld hx hb hXs hbl hbA hS (3 * i + 1) (by omega) hL dL_law_481 ?_
    rw [← hxx]
    refine lv_aload_n hx hb dL_law_482 rfl (lv_at hl 1 rfl) ?_
    refine ls_h (As := [.ref (q 0), .int x, .ref a]) (rest := []) ⟨hx, hb, hml, hown, hts⟩ (hL_entry_no l D q cA cL a f S okS hl9 x (Or.inl h9) _) (vx_cwSW 3 hts (gd_SW bw_236 bw_237 bw_0 bw_525) rfl rfl rfl (by decide +kernel) ⟨Nat.le_of_ble_eq_true rfl, Nat.le_of_ble_eq_true rfl⟩) hX hK hP hD hS rfl hl.1 rfl (Nat.le_of_ble_eq_true rfl) dL_law_483 ⟨hc, hs6⟩ (fun r5 z H locs hz hP hD hS => ?_)
    refine lv_istore (lv' := [(5, .int r5), (4, .int (nI (3 * i))), (3, .ref a), (2, .ref (q2 0)), (1, .ref (q 0)), (0, .ref b)]) hx hb dL_law_486 hl (by decide) rfl (fun ls hl => ?_)
    refine lv_aload_n hx hb dL_law_488 rfl (lv_at hl 3 rfl) ?_
    refine lv_aload_n hx hb dL_law_489 rfl (lv_at hl 5 rfl) ?_
    refine lv_iload hx hb dL_law_490 (lv_at hl 1 rfl) ?_
    refine lv_iconst (v := 1) hx hb dL_law_492 (by decide) ?_
    refine xi_inc hx hb dL_law_493 ?_
    refine ls_ld hx hb hXs hbl hbA hS (3 * i + 1) (by omega) hL dL_law_494 ?_
    rw [← hxx]
    refine ls_m (As := [.int x]) (rest := []) ⟨hx, hb, hml, hown, hts⟩ (kX1_entry_no l D q2 cB T okT x (Or.inl h9) _) (cwV 1 hts (gd_V bw_382 bw_383 bw_384 bw_2 bw_385) rfl rfl rfl (by decide +kernel) ⟨Nat.le_of_ble_eq_true rfl, Nat.le_of_ble_eq_true rfl⟩) hK hP hD hS rfl hl.1 rfl (Nat.le_of_ble_eq_true rfl) dL_law_495 ⟨hc, hs6⟩ (fun r6 u H locs hu hP hD hS => ?_)
    refine lv_istore (lv' := [(6, .int r6), (5, .int r5), (4, .int (nI (3 * i))), (3, .ref a), (2, .ref (q2 0)), (1, .ref (q 0)), (0, .ref b)]) hx hb dL_law_498 hl (by decide) rfl (fun ls hl => ?_)
    obtain ⟨z5, z1⟩ := hz
    obtain ⟨-, u1⟩ := hu
    have tI : LI z.1 u := by rw [z1, u1]; exact hI.th 1
    have t5 : yth u = r5 := by rw [u1, z5]
    have t6 : r5 = 0 → z.2 0 = Int32.toInt64 r6 := fun y => absurd (z5.symm.trans y) (by decide)
    exact lt_entry (S := z.1) (T := u) (f := z.2) ⟨hx, hb, hml, hown, hts, hXs, hbl, hK, hX, hl9, hL⟩ tI hP hD hS hc hs6 kk hl t5 t6
  · refine lv_aload_n hx hb dL_law_475 rfl (lv_at hl 3 rfl) ?_
    refine lv_aload_n hx hb dL_law_476 rfl (lv_at hl 4 rfl) ?_
    refine lv_iload hx hb dL_law_477 (lv_at hl 0 rfl) ?_
    refine lv_iconst (v := 1) hx hb dL_law_479 (by decide) ?_
    refine xi_inc hx hb dL_law_480 ?_
    refine ls_ld hx hb hXs hbl hbA hS (3 * i + 1) (by omega) hL dL_law_481 ?_
    rw [← hxx]
    refine lv_aload_n hx hb dL_law_482 rfl (lv_at hl 1 rfl) ?_
    refine ls_h (As := [.ref (q 0), .int x, .ref a]) (rest := []) ⟨hx, hb, hml, hown, hts⟩ (hL_entry_no l D q cA cL a f S okS hl9 x (Or.inr h9) _) (vx_cwSW 3 hts (gd_SW bw_236 bw_237 bw_0 bw_525) rfl rfl rfl (by decide +kernel) ⟨Nat.le_of_ble_eq_true rfl, Nat.le_of_ble_eq_true rfl⟩) hX hK hP hD hS rfl hl.1 rfl (Nat.le_of_ble_eq_true rfl) dL_law_483 ⟨hc, hs6⟩ (fun r5 z H locs hz hP hD hS => ?_)
    refine lv_istore (lv' := [(5, .int r5), (4, .int (nI (3 * i))), (3, .ref a), (2, .ref (q2 0)), (1, .ref (q 0)), (0, .ref b)]) hx hb dL_law_486 hl (by decide) rfl (fun ls hl => ?_)
    refine lv_aload_n hx hb dL_law_488 rfl (lv_at hl 3 rfl) ?_
    refine lv_aload_n hx hb dL_law_489 rfl (lv_at hl 5 rfl) ?_
    refine lv_iload hx hb dL_law_490 (lv_at hl 1 rfl) ?_
    refine lv_iconst (v := 1) hx hb dL_law_492 (by decide) ?_
    refine xi_inc hx hb dL_law_493 ?_
    refine ls_ld hx hb hXs hbl hbA hS (3 * i + 1) (by omega) hL dL_law_494 ?_
    rw [← hxx]
    refine ls_m (As := [.int x]) (rest := []) ⟨hx, hb, hml, hown, hts⟩ (kX1_entry_no l D q2 cB T okT x (Or.inr (by rw [hI.h]; exact h9)) _) (cwV 1 hts (gd_V bw_382 bw_383 bw_384 bw_2 bw_385) rfl rfl rfl (by decide +kernel) ⟨Nat.le_of_ble_eq_true rfl, Nat.le_of_ble_eq_true rfl⟩) hK hP hD hS rfl hl.1 rfl (Nat.le_of_ble_eq_true rfl) dL_law_495 ⟨hc, hs6⟩ (fun r6 u H locs hu hP hD hS => ?_)
    refine lv_istore (lv' := [(6, .int r6), (5, .int r5), (4, .int (nI (3 * i))), (3, .ref a), (2, .ref (q2 0)), (1, .ref (q 0)), (0, .ref b)]) hx hb dL_law_498 hl (by decide) rfl (fun ls hl => ?_)
    obtain ⟨z5, z1⟩ := hz
    obtain ⟨-, u1⟩ := hu
    have tI : LI z.1 u := by rw [z1, u1]; exact hI.th 1
    have t5 : yth u = r5 := by rw [u1, z5]
    have t6 : r5 = 0 → z.2 0 = Int32.toInt64 r6 := fun y => absurd (z5.symm.trans y) (by decide)
    exact lt_entry (S := z.1) (T := u) (f := z.2) ⟨hx, hb, hml, hown, hts, hXs, hbl, hK, hX, hl9, hL⟩ tI hP hD hS hc hs6 kk hl t5 t6
  · refine lv_aload_n hx hb dL_law_475 rfl (lv_at hl 3 rfl) ?_
    refine lv_aload_n hx hb dL_law_476 rfl (lv_at hl 4 rfl) ?_
    refine lv_iload hx hb dL_law_477 (lv_at hl 0 rfl) ?_
    refine lv_iconst (v := 1) hx hb dL_law_479 (by decide) ?_
    refine xi_inc hx hb dL_law_480 ?_
    refine ls_ld hx hb hXs hbl hbA hS (3 * i + 1) (by omega) hL dL_law_481 ?_
    rw [← hxx]
    refine lv_aload_n hx hb dL_law_482 rfl (lv_at hl 1 rfl) ?_
    refine ls_h (As := [.ref (q 0), .int (nI k), .ref a]) (rest := []) ⟨hx, hb, hml, hown, hts⟩ (hL_entry_ok l D q cA cL a f S okS hl9 k hk9 _) (vx_cwSW 3 hts (gd_SW bw_236 bw_237 bw_0 bw_525) rfl rfl rfl (by decide +kernel) ⟨Nat.le_of_ble_eq_true rfl, Nat.le_of_ble_eq_true rfl⟩) hX hK hP hD hS rfl hl.1 (by subst hk; rfl) (Nat.le_of_ble_eq_true rfl) dL_law_483 ⟨hc, hs6⟩ (fun r5 z H locs hz hP hD hS => ?_)
    refine lv_istore (lv' := [(5, .int r5), (4, .int (nI (3 * i))), (3, .ref a), (2, .ref (q2 0)), (1, .ref (q 0)), (0, .ref b)]) hx hb dL_law_486 hl (by decide) rfl (fun ls hl => ?_)
    refine lv_aload_n hx hb dL_law_488 rfl (lv_at hl 3 rfl) ?_
    refine lv_aload_n hx hb dL_law_489 rfl (lv_at hl 5 rfl) ?_
    refine lv_iload hx hb dL_law_490 (lv_at hl 1 rfl) ?_
    refine lv_iconst (v := 1) hx hb dL_law_492 (by decide) ?_
    refine xi_inc hx hb dL_law_493 ?_
    refine ls_ld hx hb hXs hbl hbA hS (3 * i + 1) (by omega) hL dL_law_494 ?_
    rw [← hxx]
    refine ls_m (As := [.int (nI k)]) (rest := []) ⟨hx, hb, hml, hown, hts⟩ (kX1_entry_ok l D q2 cB T okT k (by rw [hI.h]; exact hk9) _) (cwV 1 hts (gd_V bw_382 bw_383 bw_384 bw_2 bw_385) rfl rfl rfl (by decide +kernel) ⟨Nat.le_of_ble_eq_true rfl, Nat.le_of_ble_eq_true rfl⟩) hK hP hD hS rfl hl.1 (by subst hk; rfl) (Nat.le_of_ble_eq_true rfl) dL_law_495 ⟨hc, hs6⟩ (fun r6 u H locs hu hP hD hS => ?_)
    refine lv_istore (lv' := [(6, .int r6), (5, .int r5), (4, .int (nI (3 * i))), (3, .ref a), (2, .ref (q2 0)), (1, .ref (q 0)), (0, .ref b)]) hx hb dL_law_498 hl (by decide) rfl (fun ls hl => ?_)
    obtain ⟨z5, z2, z1⟩ := hz
    obtain ⟨u6, u1⟩ := hu
    have tI : LI z.1 u := by rw [z1, u1]; exact hI.th 0
    have t5 : yth u = r5 := by rw [u1, z5]
    have t6 : r5 = 0 → z.2 0 = Int32.toInt64 r6 := fun _ => by rw [z2, hI.ent hk9, u6]
    exact lt_entry (S := z.1) (T := u) (f := z.2) ⟨hx, hb, hml, hown, hts, hXs, hbl, hK, hX, hl9, hL⟩ tI hP hD hS hc hs6 kk hl t5 t6

set_option maxHeartbeats 4000000 in
set_option maxRecDepth 100000 in
theorem lt_assign (E : lE p l s m c b L xs D cA cL cB) (hI : LI S T) (hP : va_P D vwCl (wL q cA S a cL f q2 cB T) H) (hD : va_D (aL s) (wL q cA S a cL f q2 cB T)) (hS : va_S (aL s) s.heap H locs) (hc : cells + 1 ≤ room_1.cells) (hs6 : slots + 6 ≤ room_1.slots) (kk : lK p l e s m below meth c Q b D q q2 cA cL cB a i cells slots) {r5 r6 : Int32} (hl : lv_has ls 7 [(6, .int r6), (5, .int r5), (4, .int (nI (3 * i))), (3, .ref a), (2, .ref (q2 0)), (1, .ref (q 0)), (0, .ref b)]) (h5 : yth T = r5) (h6 : r5 = 0 → f 0 = (if r6 = 0 then 0 else 1)) : W p l e room_1 s m #[Value.ref b] below meth c H locs (cells + 1) (slots + 6) Q (F0 m 584 ls []) := by
  obtain ⟨hx, hb, hml, hown, hts, hXs, hbl, hK, hX, hl9, hL⟩ := E
  have hbA : ¬ aL s b := Nat.not_le.mpr hbl
  have okS := hI.2.1
  have okT := hI.2.2.1
  refine lv_aload_n hx hb dL_law_584 rfl (lv_at hl 4 rfl) ?_
  refine xc_rv (w0 := wM q2 cB T) (As := []) (rest := []) ⟨hx, hb, hml, hown, hts⟩ (kX1_thrown l D q2 cB T okT) (cwV 0 hts (gd_V bw_282 bw_283 bw_284 bw_2 bw_285) rfl rfl rfl (by decide +kernel) ⟨Nat.le_of_ble_eq_true rfl, Nat.le_of_ble_eq_true rfl⟩) (va_recv (ci := 1) (q0 := 0) (tys := tyL cA cL cB) hK (pt_PR hP) rfl rfl) (pt_PR hP) (hK.sub [2] rfl) rfl hl.1 rfl (Nat.le_of_ble_eq_true rfl) dL_law_585 ⟨hc, hs6⟩ ?_
  refine lv_iload hx hb dL_law_588 (lv_at hl 1 rfl) ?_
  refine lv_icmp_eq (tgt := 595) hx hb dL_law_590 (by decide) (fun _ => ?_) (fun z9 => absurd h5 z9)
  refine lv_iload hx hb dL_law_595 (lv_at hl 1 rfl) ?_
  have fin : W p l e room_1 s m #[Value.ref b] below meth c H locs (cells + 1) (slots + 6) Q (F0 m 619 ls []) := by
    refine lv_goto (tgt := 674) hx hb dL_law_619 (by decide) ?_
    exact kk S T f H locs ls hI (lv_sub hl [2, 3, 4, 5, 6] rfl) hP hD hS
  refine lv_if_ne (tgt := 619) hx hb dL_law_597 (by decide) (fun _ => fin) (fun z9 => ?_)
  have z5 : r5 = 0 := by first | exact z9 | exact Classical.byContradiction z9
  refine lv_aload_n hx hb dL_law_600 rfl (lv_at hl 3 rfl) ?_
  refine lv_iconst (v := 0) hx hb dL_law_601 (by decide) ?_
  refine ls_ll hx hb hK hP dL_law_602 ?_
  refine lv_iload hx hb dL_law_603 (lv_at hl 0 rfl) ?_
  refine lv_if_eq (tgt := 612) hx hb dL_law_605 (by decide) (fun z7 => ?_) (fun z7 => ?_)
  · refine lv_lconst (v := 0) hx hb dL_law_612 (by decide) ?_
    refine W.lcmp hx hb dL_law_613 ?_
    refine lv_if_eq (tgt := 619) hx hb dL_law_614 (by decide) (fun _ => fin) (fun z8 => absurd (by rw [h6 z5, if_pos z7]; exact lcmp_self _) z8)
  · refine lv_lconst (v := 1) hx hb dL_law_608 (by decide) ?_
    refine lv_goto (tgt := 613) hx hb dL_law_609 (by decide) ?_
    refine W.lcmp hx hb dL_law_613 ?_
    refine lv_if_eq (tgt := 619) hx hb dL_law_614 (by decide) (fun _ => fin) (fun z8 => absurd (by rw [h6 z5, if_neg z7]; exact lcmp_self _) z8)

set_option maxHeartbeats 4000000 in
set_option maxRecDepth 100000 in
theorem lo_assign (E : lE p l s m c b L xs D cA cL cB) (hI : LI S T) (hP : va_P D vwCl (wL q cA S a cL f q2 cB T) H) (hD : va_D (aL s) (wL q cA S a cL f q2 cB T)) (hS : va_S (aL s) s.heap H locs) (hc : cells + 1 ≤ room_1.cells) (hs6 : slots + 6 ≤ room_1.slots) (kk : lK p l e s m below meth c Q b D q q2 cA cL cB a i cells slots) (hl : lv_has ls 7 (lvL b a i q q2)) (hi : 3 * i + 3 ≤ L) : W p l e room_1 s m #[Value.ref b] below meth c H locs cells slots Q (F0 m 531 ls []) := by
  obtain ⟨hx, hb, hml, hown, hts, hXs, hbl, hK, hX, hl9, hL⟩ := E
  have hbA : ¬ aL s b := Nat.not_le.mpr hbl
  have okS := hI.2.1
  have okT := hI.2.2.1
  have hl : lv_has ls 7 [(4, .int (nI (3 * i))), (3, .ref a), (2, .ref (q2 0)), (1, .ref (q 0)), (0, .ref b)] := hl
  obtain ⟨x, hxx⟩ : ∃ x, x = xs (3 * i + 1) := ⟨_, rfl⟩
  obtain ⟨bb, hbb⟩ : ∃ x, x = xs (3 * i + 2) := ⟨_, rfl⟩
  rcases Classical.em (bb = 0) with hb0 | hb0 <;> rcases Bool.eq_false_or_eq_true (k_isV x) with h9 | h9
  · obtain ⟨v, h1, h2, hv⟩ := isV_of h9
    refine lv_aload_n hx hb dL_law_531 rfl (lv_at hl 3 rfl) ?_
    refine lv_aload_n hx hb dL_law_532 rfl (lv_at hl 4 rfl) ?_
    refine lv_iload hx hb dL_law_533 (lv_at hl 0 rfl) ?_
    refine lv_iconst (v := 1) hx hb dL_law_535 (by decide) ?_
    refine xi_inc hx hb dL_law_536 ?_
    refine ls_ld hx hb hXs hbl hbA hS (3 * i + 1) (by omega) hL dL_law_537 ?_
    rw [← hxx]
    refine lv_aload_n hx hb dL_law_538 rfl (lv_at hl 4 rfl) ?_
    refine lv_iload hx hb dL_law_539 (lv_at hl 0 rfl) ?_
    refine lv_iconst (v := 2) hx hb dL_law_541 (by decide) ?_
    refine xi_inc2 hx hb dL_law_542 ?_
    refine ls_ld hx hb hXs hbl hbA hS (3 * i + 2) (by omega) hL dL_law_543 ?_
    rw [← hbb]
    refine lv_if_eq (tgt := 551) hx hb dL_law_544 (by decide) (fun _ => ?_) (fun z9 => absurd hb0 z9)
    refine lv_iconst (v := 0) hx hb dL_law_551 (by decide) ?_
    refine lv_aload_n hx hb dL_law_552 rfl (lv_at hl 1 rfl) ?_
    refine ls_h (As := [.ref (q 0), .int (nI v), .int 0, .ref a]) (rest := []) ⟨hx, hb, hml, hown, hts⟩ (hL_assign_ok l D q cA cL a f S okS hl9 v 0 h1 h2 _) (vx_cwSW 4 hts (gd_SW bw_246 bw_247 bw_0 bw_526) rfl rfl rfl (by decide +kernel) ⟨Nat.le_of_ble_eq_true rfl, Nat.le_of_ble_eq_true rfl⟩) hX hK hP hD hS rfl hl.1 (by subst hv; rfl) (Nat.le_of_ble_eq_true rfl) dL_law_553 ⟨hc, hs6⟩ (fun r5 z H locs hz hP hD hS => ?_)
    refine lv_istore (lv' := [(5, .int r5), (4, .int (nI (3 * i))), (3, .ref a), (2, .ref (q2 0)), (1, .ref (q 0)), (0, .ref b)]) hx hb dL_law_556 hl (by decide) rfl (fun ls hl => ?_)
    refine lv_aload_n hx hb dL_law_558 rfl (lv_at hl 3 rfl) ?_
    refine lv_aload_n hx hb dL_law_559 rfl (lv_at hl 5 rfl) ?_
    refine lv_iload hx hb dL_law_560 (lv_at hl 1 rfl) ?_
    refine lv_iconst (v := 1) hx hb dL_law_562 (by decide) ?_
    refine xi_inc hx hb dL_law_563 ?_
    refine ls_ld hx hb hXs hbl hbA hS (3 * i + 1) (by omega) hL dL_law_564 ?_
    rw [← hxx]
    refine lv_aload_n hx hb dL_law_565 rfl (lv_at hl 5 rfl) ?_
    refine lv_iload hx hb dL_law_566 (lv_at hl 1 rfl) ?_
    refine lv_iconst (v := 2) hx hb dL_law_568 (by decide) ?_
    refine xi_inc2 hx hb dL_law_569 ?_
    refine ls_ld hx hb hXs hbl hbA hS (3 * i + 2) (by omega) hL dL_law_570 ?_
    rw [← hbb]
    refine lv_if_eq (tgt := 578) hx hb dL_law_571 (by decide) (fun _ => ?_) (fun z9 => absurd hb0 z9)
    refine lv_iconst (v := 0) hx hb dL_law_578 (by decide) ?_
    refine ls_m (As := [.int (nI v), .int 0]) (rest := []) ⟨hx, hb, hml, hown, hts⟩ (kX1_assign_ok l D q2 cB T okT (nI v) 0 (by rw [← hv]; exact h9) _) (cwV 2 hts (gd_V bw_386 bw_387 bw_388 bw_2 bw_389) rfl rfl rfl (by decide +kernel) ⟨Nat.le_of_ble_eq_true rfl, Nat.le_of_ble_eq_true rfl⟩) hK hP hD hS rfl hl.1 (by subst hv; rfl) (Nat.le_of_ble_eq_true rfl) dL_law_579 ⟨hc, hs6⟩ (fun r6 u H locs hu hP hD hS => ?_)
    refine lv_istore (lv' := [(6, .int r6), (5, .int r5), (4, .int (nI (3 * i))), (3, .ref a), (2, .ref (q2 0)), (1, .ref (q 0)), (0, .ref b)]) hx hb dL_law_582 hl (by decide) rfl (fun ls hl => ?_)
    obtain ⟨z5, r1, z2, z3, z1⟩ := hz
    obtain ⟨u6, u1⟩ := hu
    have tI : LI z.1 u := by rw [z1, u1]; exact hI.asg h1 h2 0 0
    have t5 : yth u = r5 := by rw [u1, z5]
    have t6 : r5 = 0 → z.2 0 = (if r6 = 0 then 0 else 1) := fun _ => by rw [z2, z3, u6, hI.1.2.1, decide_eq_decide.mpr (as_bit (t := yt T) h1 h2)]
    exact lt_assign (S := z.1) (T := u) (f := z.2) ⟨hx, hb, hml, hown, hts, hXs, hbl, hK, hX, hl9, hL⟩ tI hP hD hS hc hs6 kk hl t5 t6
  · refine lv_aload_n hx hb dL_law_531 rfl (lv_at hl 3 rfl) ?_
    refine lv_aload_n hx hb dL_law_532 rfl (lv_at hl 4 rfl) ?_
    refine lv_iload hx hb dL_law_533 (lv_at hl 0 rfl) ?_
    refine lv_iconst (v := 1) hx hb dL_law_535 (by decide) ?_
    refine xi_inc hx hb dL_law_536 ?_
    refine ls_ld hx hb hXs hbl hbA hS (3 * i + 1) (by omega) hL dL_law_537 ?_
    rw [← hxx]
    refine lv_aload_n hx hb dL_law_538 rfl (lv_at hl 4 rfl) ?_
    refine lv_iload hx hb dL_law_539 (lv_at hl 0 rfl) ?_
    refine lv_iconst (v := 2) hx hb dL_law_541 (by decide) ?_
    refine xi_inc2 hx hb dL_law_542 ?_
    refine ls_ld hx hb hXs hbl hbA hS (3 * i + 2) (by omega) hL dL_law_543 ?_
    rw [← hbb]
    refine lv_if_eq (tgt := 551) hx hb dL_law_544 (by decide) (fun _ => ?_) (fun z9 => absurd hb0 z9)
    refine lv_iconst (v := 0) hx hb dL_law_551 (by decide) ?_
    refine lv_aload_n hx hb dL_law_552 rfl (lv_at hl 1 rfl) ?_
    refine ls_h (As := [.ref (q 0), .int x, .int 0, .ref a]) (rest := []) ⟨hx, hb, hml, hown, hts⟩ (hL_assign_no l D q cA cL a f S okS hl9 x 0 h9 _) (vx_cwSW 4 hts (gd_SW bw_246 bw_247 bw_0 bw_526) rfl rfl rfl (by decide +kernel) ⟨Nat.le_of_ble_eq_true rfl, Nat.le_of_ble_eq_true rfl⟩) hX hK hP hD hS rfl hl.1 rfl (Nat.le_of_ble_eq_true rfl) dL_law_553 ⟨hc, hs6⟩ (fun r5 z H locs hz hP hD hS => ?_)
    refine lv_istore (lv' := [(5, .int r5), (4, .int (nI (3 * i))), (3, .ref a), (2, .ref (q2 0)), (1, .ref (q 0)), (0, .ref b)]) hx hb dL_law_556 hl (by decide) rfl (fun ls hl => ?_)
    refine lv_aload_n hx hb dL_law_558 rfl (lv_at hl 3 rfl) ?_
    refine lv_aload_n hx hb dL_law_559 rfl (lv_at hl 5 rfl) ?_
    refine lv_iload hx hb dL_law_560 (lv_at hl 1 rfl) ?_
    refine lv_iconst (v := 1) hx hb dL_law_562 (by decide) ?_
    refine xi_inc hx hb dL_law_563 ?_
    refine ls_ld hx hb hXs hbl hbA hS (3 * i + 1) (by omega) hL dL_law_564 ?_
    rw [← hxx]
    refine lv_aload_n hx hb dL_law_565 rfl (lv_at hl 5 rfl) ?_
    refine lv_iload hx hb dL_law_566 (lv_at hl 1 rfl) ?_
    refine lv_iconst (v := 2) hx hb dL_law_568 (by decide) ?_
    refine xi_inc2 hx hb dL_law_569 ?_
    refine ls_ld hx hb hXs hbl hbA hS (3 * i + 2) (by omega) hL dL_law_570 ?_
    rw [← hbb]
    refine lv_if_eq (tgt := 578) hx hb dL_law_571 (by decide) (fun _ => ?_) (fun z9 => absurd hb0 z9)
    refine lv_iconst (v := 0) hx hb dL_law_578 (by decide) ?_
    refine ls_m (As := [.int x, .int 0]) (rest := []) ⟨hx, hb, hml, hown, hts⟩ (kX1_assign_no l D q2 cB T okT x 0 h9 _) (cwV 2 hts (gd_V bw_386 bw_387 bw_388 bw_2 bw_389) rfl rfl rfl (by decide +kernel) ⟨Nat.le_of_ble_eq_true rfl, Nat.le_of_ble_eq_true rfl⟩) hK hP hD hS rfl hl.1 rfl (Nat.le_of_ble_eq_true rfl) dL_law_579 ⟨hc, hs6⟩ (fun r6 u H locs hu hP hD hS => ?_)
    refine lv_istore (lv' := [(6, .int r6), (5, .int r5), (4, .int (nI (3 * i))), (3, .ref a), (2, .ref (q2 0)), (1, .ref (q 0)), (0, .ref b)]) hx hb dL_law_582 hl (by decide) rfl (fun ls hl => ?_)
    obtain ⟨z5, z1⟩ := hz
    obtain ⟨-, u1⟩ := hu
    have tI : LI z.1 u := by rw [z1, u1]; exact hI.th 1
    have t5 : yth u = r5 := by rw [u1, z5]
    have t6 : r5 = 0 → z.2 0 = (if r6 = 0 then 0 else 1) := fun y => absurd (z5.symm.trans y) (by decide)
    exact lt_assign (S := z.1) (T := u) (f := z.2) ⟨hx, hb, hml, hown, hts, hXs, hbl, hK, hX, hl9, hL⟩ tI hP hD hS hc hs6 kk hl t5 t6
  · obtain ⟨v, h1, h2, hv⟩ := isV_of h9
    refine lv_aload_n hx hb dL_law_531 rfl (lv_at hl 3 rfl) ?_
    refine lv_aload_n hx hb dL_law_532 rfl (lv_at hl 4 rfl) ?_
    refine lv_iload hx hb dL_law_533 (lv_at hl 0 rfl) ?_
    refine lv_iconst (v := 1) hx hb dL_law_535 (by decide) ?_
    refine xi_inc hx hb dL_law_536 ?_
    refine ls_ld hx hb hXs hbl hbA hS (3 * i + 1) (by omega) hL dL_law_537 ?_
    rw [← hxx]
    refine lv_aload_n hx hb dL_law_538 rfl (lv_at hl 4 rfl) ?_
    refine lv_iload hx hb dL_law_539 (lv_at hl 0 rfl) ?_
    refine lv_iconst (v := 2) hx hb dL_law_541 (by decide) ?_
    refine xi_inc2 hx hb dL_law_542 ?_
    refine ls_ld hx hb hXs hbl hbA hS (3 * i + 2) (by omega) hL dL_law_543 ?_
    rw [← hbb]
    refine lv_if_eq (tgt := 551) hx hb dL_law_544 (by decide) (fun z9 => absurd z9 hb0) (fun _ => ?_)
    refine lv_iconst (v := 1) hx hb dL_law_547 (by decide) ?_
    refine lv_goto (tgt := 552) hx hb dL_law_548 (by decide) ?_
    refine lv_aload_n hx hb dL_law_552 rfl (lv_at hl 1 rfl) ?_
    refine ls_h (As := [.ref (q 0), .int (nI v), .int 1, .ref a]) (rest := []) ⟨hx, hb, hml, hown, hts⟩ (hL_assign_ok l D q cA cL a f S okS hl9 v 1 h1 h2 _) (vx_cwSW 4 hts (gd_SW bw_246 bw_247 bw_0 bw_526) rfl rfl rfl (by decide +kernel) ⟨Nat.le_of_ble_eq_true rfl, Nat.le_of_ble_eq_true rfl⟩) hX hK hP hD hS rfl hl.1 (by subst hv; rfl) (Nat.le_of_ble_eq_true rfl) dL_law_553 ⟨hc, hs6⟩ (fun r5 z H locs hz hP hD hS => ?_)
    refine lv_istore (lv' := [(5, .int r5), (4, .int (nI (3 * i))), (3, .ref a), (2, .ref (q2 0)), (1, .ref (q 0)), (0, .ref b)]) hx hb dL_law_556 hl (by decide) rfl (fun ls hl => ?_)
    refine lv_aload_n hx hb dL_law_558 rfl (lv_at hl 3 rfl) ?_
    refine lv_aload_n hx hb dL_law_559 rfl (lv_at hl 5 rfl) ?_
    refine lv_iload hx hb dL_law_560 (lv_at hl 1 rfl) ?_
    refine lv_iconst (v := 1) hx hb dL_law_562 (by decide) ?_
    refine xi_inc hx hb dL_law_563 ?_
    refine ls_ld hx hb hXs hbl hbA hS (3 * i + 1) (by omega) hL dL_law_564 ?_
    rw [← hxx]
    refine lv_aload_n hx hb dL_law_565 rfl (lv_at hl 5 rfl) ?_
    refine lv_iload hx hb dL_law_566 (lv_at hl 1 rfl) ?_
    refine lv_iconst (v := 2) hx hb dL_law_568 (by decide) ?_
    refine xi_inc2 hx hb dL_law_569 ?_
    refine ls_ld hx hb hXs hbl hbA hS (3 * i + 2) (by omega) hL dL_law_570 ?_
    rw [← hbb]
    refine lv_if_eq (tgt := 578) hx hb dL_law_571 (by decide) (fun z9 => absurd z9 hb0) (fun _ => ?_)
    refine lv_iconst (v := 1) hx hb dL_law_574 (by decide) ?_
    refine lv_goto (tgt := 579) hx hb dL_law_575 (by decide) ?_
    refine ls_m (As := [.int (nI v), .int 1]) (rest := []) ⟨hx, hb, hml, hown, hts⟩ (kX1_assign_ok l D q2 cB T okT (nI v) 1 (by rw [← hv]; exact h9) _) (cwV 2 hts (gd_V bw_386 bw_387 bw_388 bw_2 bw_389) rfl rfl rfl (by decide +kernel) ⟨Nat.le_of_ble_eq_true rfl, Nat.le_of_ble_eq_true rfl⟩) hK hP hD hS rfl hl.1 (by subst hv; rfl) (Nat.le_of_ble_eq_true rfl) dL_law_579 ⟨hc, hs6⟩ (fun r6 u H locs hu hP hD hS => ?_)
    refine lv_istore (lv' := [(6, .int r6), (5, .int r5), (4, .int (nI (3 * i))), (3, .ref a), (2, .ref (q2 0)), (1, .ref (q 0)), (0, .ref b)]) hx hb dL_law_582 hl (by decide) rfl (fun ls hl => ?_)
    obtain ⟨z5, r1, z2, z3, z1⟩ := hz
    obtain ⟨u6, u1⟩ := hu
    have tI : LI z.1 u := by rw [z1, u1]; exact hI.asg h1 h2 1 0
    have t5 : yth u = r5 := by rw [u1, z5]
    have t6 : r5 = 0 → z.2 0 = (if r6 = 0 then 0 else 1) := fun _ => by rw [z2, z3, u6, hI.1.2.1, decide_eq_decide.mpr (as_bit (t := yt T) h1 h2)]
    exact lt_assign (S := z.1) (T := u) (f := z.2) ⟨hx, hb, hml, hown, hts, hXs, hbl, hK, hX, hl9, hL⟩ tI hP hD hS hc hs6 kk hl t5 t6
  · refine lv_aload_n hx hb dL_law_531 rfl (lv_at hl 3 rfl) ?_
    refine lv_aload_n hx hb dL_law_532 rfl (lv_at hl 4 rfl) ?_
    refine lv_iload hx hb dL_law_533 (lv_at hl 0 rfl) ?_
    refine lv_iconst (v := 1) hx hb dL_law_535 (by decide) ?_
    refine xi_inc hx hb dL_law_536 ?_
    refine ls_ld hx hb hXs hbl hbA hS (3 * i + 1) (by omega) hL dL_law_537 ?_
    rw [← hxx]
    refine lv_aload_n hx hb dL_law_538 rfl (lv_at hl 4 rfl) ?_
    refine lv_iload hx hb dL_law_539 (lv_at hl 0 rfl) ?_
    refine lv_iconst (v := 2) hx hb dL_law_541 (by decide) ?_
    refine xi_inc2 hx hb dL_law_542 ?_
    refine ls_ld hx hb hXs hbl hbA hS (3 * i + 2) (by omega) hL dL_law_543 ?_
    rw [← hbb]
    refine lv_if_eq (tgt := 551) hx hb dL_law_544 (by decide) (fun z9 => absurd z9 hb0) (fun _ => ?_)
    refine lv_iconst (v := 1) hx hb dL_law_547 (by decide) ?_
    refine lv_goto (tgt := 552) hx hb dL_law_548 (by decide) ?_
    refine lv_aload_n hx hb dL_law_552 rfl (lv_at hl 1 rfl) ?_
    refine ls_h (As := [.ref (q 0), .int x, .int 1, .ref a]) (rest := []) ⟨hx, hb, hml, hown, hts⟩ (hL_assign_no l D q cA cL a f S okS hl9 x 1 h9 _) (vx_cwSW 4 hts (gd_SW bw_246 bw_247 bw_0 bw_526) rfl rfl rfl (by decide +kernel) ⟨Nat.le_of_ble_eq_true rfl, Nat.le_of_ble_eq_true rfl⟩) hX hK hP hD hS rfl hl.1 rfl (Nat.le_of_ble_eq_true rfl) dL_law_553 ⟨hc, hs6⟩ (fun r5 z H locs hz hP hD hS => ?_)
    refine lv_istore (lv' := [(5, .int r5), (4, .int (nI (3 * i))), (3, .ref a), (2, .ref (q2 0)), (1, .ref (q 0)), (0, .ref b)]) hx hb dL_law_556 hl (by decide) rfl (fun ls hl => ?_)
    refine lv_aload_n hx hb dL_law_558 rfl (lv_at hl 3 rfl) ?_
    refine lv_aload_n hx hb dL_law_559 rfl (lv_at hl 5 rfl) ?_
    refine lv_iload hx hb dL_law_560 (lv_at hl 1 rfl) ?_
    refine lv_iconst (v := 1) hx hb dL_law_562 (by decide) ?_
    refine xi_inc hx hb dL_law_563 ?_
    refine ls_ld hx hb hXs hbl hbA hS (3 * i + 1) (by omega) hL dL_law_564 ?_
    rw [← hxx]
    refine lv_aload_n hx hb dL_law_565 rfl (lv_at hl 5 rfl) ?_
    refine lv_iload hx hb dL_law_566 (lv_at hl 1 rfl) ?_
    refine lv_iconst (v := 2) hx hb dL_law_568 (by decide) ?_
    refine xi_inc2 hx hb dL_law_569 ?_
    refine ls_ld hx hb hXs hbl hbA hS (3 * i + 2) (by omega) hL dL_law_570 ?_
    rw [← hbb]
    refine lv_if_eq (tgt := 578) hx hb dL_law_571 (by decide) (fun z9 => absurd z9 hb0) (fun _ => ?_)
    refine lv_iconst (v := 1) hx hb dL_law_574 (by decide) ?_
    refine lv_goto (tgt := 579) hx hb dL_law_575 (by decide) ?_
    refine ls_m (As := [.int x, .int 1]) (rest := []) ⟨hx, hb, hml, hown, hts⟩ (kX1_assign_no l D q2 cB T okT x 1 h9 _) (cwV 2 hts (gd_V bw_386 bw_387 bw_388 bw_2 bw_389) rfl rfl rfl (by decide +kernel) ⟨Nat.le_of_ble_eq_true rfl, Nat.le_of_ble_eq_true rfl⟩) hK hP hD hS rfl hl.1 rfl (Nat.le_of_ble_eq_true rfl) dL_law_579 ⟨hc, hs6⟩ (fun r6 u H locs hu hP hD hS => ?_)
    refine lv_istore (lv' := [(6, .int r6), (5, .int r5), (4, .int (nI (3 * i))), (3, .ref a), (2, .ref (q2 0)), (1, .ref (q 0)), (0, .ref b)]) hx hb dL_law_582 hl (by decide) rfl (fun ls hl => ?_)
    obtain ⟨z5, z1⟩ := hz
    obtain ⟨-, u1⟩ := hu
    have tI : LI z.1 u := by rw [z1, u1]; exact hI.th 1
    have t5 : yth u = r5 := by rw [u1, z5]
    have t6 : r5 = 0 → z.2 0 = (if r6 = 0 then 0 else 1) := fun y => absurd (z5.symm.trans y) (by decide)
    exact lt_assign (S := z.1) (T := u) (f := z.2) ⟨hx, hb, hml, hown, hts, hXs, hbl, hK, hX, hl9, hL⟩ tI hP hD hS hc hs6 kk hl t5 t6

theorem vs_never {w : Nat} (h : ∀ L M : List cC, (v_turn w L M).1 ≠ -1) : ∀ (f n : Nat) (L M : List cC), (v_steps w f n L M).1 ≠ -1
  | 0, _, _, _ => (show ¬ (0 : Int32) = -1 by decide)
  | f + 1, n, L, M => by
    by_cases z : (v_turn w L M).1 = 1
    · rw [vs_1 z]
      exact vs_never h f _ _ _
    · rw [vs_0 z]
      exact h L M
theorem st_cases (x : Int32) (P R : Prop) : (x < 0 ∨ 3 < x) ∨ (x = 0 ∧ P) ∨ (x = 0 ∧ ¬ P) ∨ x = 1 ∨ x = 2 ∨ (x = 3 ∧ R) ∨ (x = 3 ∧ ¬ R) := by
  by_cases h1 : x < 0
  · exact Or.inl (Or.inl h1)
  · by_cases h2 : 3 < x
    · exact Or.inl (Or.inr h2)
    · obtain ⟨j, hj, rfl⟩ := nI_of2 (M := 3) (n := 3) (by decide) h1 (Int32.not_lt.mp h2)
      have hj4 : j = 0 ∨ j = 1 ∨ j = 2 ∨ j = 3 := by omega
      rcases hj4 with rfl | rfl | rfl | rfl
      · by_cases z : P
        · exact Or.inr (Or.inl ⟨rfl, z⟩)
        · exact Or.inr (Or.inr (Or.inl ⟨rfl, z⟩))
      · exact Or.inr (Or.inr (Or.inr (Or.inl rfl)))
      · exact Or.inr (Or.inr (Or.inr (Or.inr (Or.inl rfl))))
      · by_cases z : R
        · exact Or.inr (Or.inr (Or.inr (Or.inr (Or.inr (Or.inl ⟨rfl, z⟩)))))
        · exact Or.inr (Or.inr (Or.inr (Or.inr (Or.inr (Or.inr ⟨rfl, z⟩)))))

set_option maxHeartbeats 4000000 in
set_option maxRecDepth 100000 in
theorem lt_step (E : lE p l s m c b L xs D cA cL cB) (hI : LI S T) (hP : va_P D vwCl (wL q cA S a cL f q2 cB T) H) (hD : va_D (aL s) (wL q cA S a cL f q2 cB T)) (hS : va_S (aL s) s.heap H locs) (hc : cells + 1 ≤ room_1.cells) (hs6 : slots + 6 ≤ room_1.slots) (kk : lK p l e s m below meth c Q b D q q2 cA cL cB a i cells slots) {r5 r6 : Int32} (hl : lv_has ls 7 [(6, .int r6), (5, .int r5), (4, .int (nI (3 * i))), (3, .ref a), (2, .ref (q2 0)), (1, .ref (q 0)), (0, .ref b)]) (h5 : yth T = r5) (h6 : r5 = 0 → f 0 = Int32.toInt64 r6) : W p l e room_1 s m #[Value.ref b] below meth c H locs (cells + 1) (slots + 6) Q (F0 m 237 ls []) := by
  obtain ⟨hx, hb, hml, hown, hts, hXs, hbl, hK, hX, hl9, hL⟩ := E
  have hbA : ¬ aL s b := Nat.not_le.mpr hbl
  have okS := hI.2.1
  have okT := hI.2.2.1
  refine lv_aload_n hx hb dL_law_237 rfl (lv_at hl 4 rfl) ?_
  refine xc_rv (w0 := wM q2 cB T) (As := []) (rest := []) ⟨hx, hb, hml, hown, hts⟩ (kX1_thrown l D q2 cB T okT) (cwV 0 hts (gd_V bw_282 bw_283 bw_284 bw_2 bw_285) rfl rfl rfl (by decide +kernel) ⟨Nat.le_of_ble_eq_true rfl, Nat.le_of_ble_eq_true rfl⟩) (va_recv (ci := 1) (q0 := 0) (tys := tyL cA cL cB) hK (pt_PR hP) rfl rfl) (pt_PR hP) (hK.sub [2] rfl) rfl hl.1 rfl (Nat.le_of_ble_eq_true rfl) dL_law_238 ⟨hc, hs6⟩ ?_
  refine lv_iload hx hb dL_law_241 (lv_at hl 1 rfl) ?_
  refine lv_icmp_eq (tgt := 248) hx hb dL_law_243 (by decide) (fun _ => ?_) (fun z9 => absurd h5 z9)
  refine lv_iload hx hb dL_law_248 (lv_at hl 1 rfl) ?_
  have fin : W p l e room_1 s m #[Value.ref b] below meth c H locs (cells + 1) (slots + 6) Q (F0 m 265 ls []) := by
    refine lv_goto (tgt := 674) hx hb dL_law_265 (by decide) ?_
    exact kk S T f H locs ls hI (lv_sub hl [2, 3, 4, 5, 6] rfl) hP hD hS
  refine lv_if_ne (tgt := 265) hx hb dL_law_250 (by decide) (fun _ => fin) (fun z9 => ?_)
  have z5 : r5 = 0 := by first | exact z9 | exact Classical.byContradiction z9
  refine lv_aload_n hx hb dL_law_253 rfl (lv_at hl 3 rfl) ?_
  refine lv_iconst (v := 0) hx hb dL_law_254 (by decide) ?_
  refine ls_ll hx hb hK hP dL_law_255 ?_
  refine lv_iload hx hb dL_law_256 (lv_at hl 0 rfl) ?_
  refine lv_i2l (v := Int32.toInt64 r6) hx hb dL_law_258 rfl ?_
  refine W.lcmp hx hb dL_law_259 ?_
  refine lv_if_eq (tgt := 265) hx hb dL_law_260 (by decide) (fun _ => fin) (fun z8 => absurd (by rw [h6 z5]; exact lcmp_self _) z8)

set_option maxHeartbeats 4000000 in
set_option maxRecDepth 100000 in
theorem lo_step (E : lE p l s m c b L xs D cA cL cB) (hI : LI S T) (hP : va_P D vwCl (wL q cA S a cL f q2 cB T) H) (hD : va_D (aL s) (wL q cA S a cL f q2 cB T)) (hS : va_S (aL s) s.heap H locs) (hc : cells + 1 ≤ room_1.cells) (hs6 : slots + 6 ≤ room_1.slots) (kk : lK p l e s m below meth c Q b D q q2 cA cL cB a i cells slots) (hl : lv_has ls 7 (lvL b a i q q2)) (hi : 3 * i + 3 ≤ L) : W p l e room_1 s m #[Value.ref b] below meth c H locs cells slots Q (F0 m 212 ls []) := by
  obtain ⟨hx, hb, hml, hown, hts, hXs, hbl, hK, hX, hl9, hL⟩ := E
  have hbA : ¬ aL s b := Nat.not_le.mpr hbl
  have okS := hI.2.1
  have okT := hI.2.2.1
  have hl : lv_has ls 7 [(4, .int (nI (3 * i))), (3, .ref a), (2, .ref (q2 0)), (1, .ref (q 0)), (0, .ref b)] := hl
  obtain ⟨x, hxx⟩ : ∃ x, x = xs (3 * i + 1) := ⟨_, rfl⟩
  rcases st_cases x ((v_steps 0 (mu_L (vXL S) + 1) 0 (vXL S) (vXT S)).1 = -1) ((v_steps 3 (mu_L (vXL S) + 1) 0 (vXL S) (vXT S)).1 = -1) with h9 | ⟨hw, hm⟩ | ⟨hw, hm⟩ | hw | hw | ⟨hw, hm⟩ | ⟨hw, hm⟩
  · refine lv_aload_n hx hb dL_law_212 rfl (lv_at hl 3 rfl) ?_
    refine lv_aload_n hx hb dL_law_213 rfl (lv_at hl 4 rfl) ?_
    refine lv_iload hx hb dL_law_214 (lv_at hl 0 rfl) ?_
    refine lv_iconst (v := 1) hx hb dL_law_216 (by decide) ?_
    refine xi_inc hx hb dL_law_217 ?_
    refine ls_ld hx hb hXs hbl hbA hS (3 * i + 1) (by omega) hL dL_law_218 ?_
    rw [← hxx]
    refine lv_aload_n hx hb dL_law_219 rfl (lv_at hl 1 rfl) ?_
    refine ls_h (As := [.ref (q 0), .int x, .ref a]) (rest := []) ⟨hx, hb, hml, hown, hts⟩ (hL_step_no l D q cA cL a f S okS hl9 x h9 _) (vx_cwSW 3 hts (gd_SW bw_133 bw_134 bw_0 bw_521) rfl rfl rfl (by decide +kernel) ⟨Nat.le_of_ble_eq_true rfl, Nat.le_of_ble_eq_true rfl⟩) hX hK hP hD hS rfl hl.1 rfl (Nat.le_of_ble_eq_true rfl) dL_law_220 ⟨hc, hs6⟩ (fun r5 z H locs hz hP hD hS => ?_)
    refine lv_istore (lv' := [(5, .int r5), (4, .int (nI (3 * i))), (3, .ref a), (2, .ref (q2 0)), (1, .ref (q 0)), (0, .ref b)]) hx hb dL_law_223 hl (by decide) rfl (fun ls hl => ?_)
    refine lv_aload_n hx hb dL_law_225 rfl (lv_at hl 3 rfl) ?_
    refine lv_aload_n hx hb dL_law_226 rfl (lv_at hl 5 rfl) ?_
    refine lv_iload hx hb dL_law_227 (lv_at hl 1 rfl) ?_
    refine lv_iconst (v := 1) hx hb dL_law_229 (by decide) ?_
    refine xi_inc hx hb dL_law_230 ?_
    refine ls_ld hx hb hXs hbl hbA hS (3 * i + 1) (by omega) hL dL_law_231 ?_
    rw [← hxx]
    refine ls_m (As := [.int x]) (rest := []) ⟨hx, hb, hml, hown, hts⟩ (kX1_step_no l D q2 cB T okT x h9 _) (cwV 1 hts (gd_V bw_312 bw_313 bw_314 bw_2 bw_315) rfl rfl rfl (by decide +kernel) ⟨Nat.le_of_ble_eq_true rfl, Nat.le_of_ble_eq_true rfl⟩) hK hP hD hS rfl hl.1 rfl (Nat.le_of_ble_eq_true rfl) dL_law_232 ⟨hc, hs6⟩ (fun r6 u H locs hu hP hD hS => ?_)
    refine lv_istore (lv' := [(6, .int r6), (5, .int r5), (4, .int (nI (3 * i))), (3, .ref a), (2, .ref (q2 0)), (1, .ref (q 0)), (0, .ref b)]) hx hb dL_law_235 hl (by decide) rfl (fun ls hl => ?_)
    obtain ⟨z5, z1⟩ := hz
    obtain ⟨-, u1⟩ := hu
    have tI : LI z.1 u := by rw [z1, u1]; exact hI.th 1
    have t5 : yth u = r5 := by rw [u1, z5]
    have t6 : r5 = 0 → z.2 0 = Int32.toInt64 r6 := fun y => absurd (z5.symm.trans y) (by decide)
    exact lt_step (S := z.1) (T := u) (f := z.2) ⟨hx, hb, hml, hown, hts, hXs, hbl, hK, hX, hl9, hL⟩ tI hP hD hS hc hs6 kk hl t5 t6
  · refine lv_aload_n hx hb dL_law_212 rfl (lv_at hl 3 rfl) ?_
    refine lv_aload_n hx hb dL_law_213 rfl (lv_at hl 4 rfl) ?_
    refine lv_iload hx hb dL_law_214 (lv_at hl 0 rfl) ?_
    refine lv_iconst (v := 1) hx hb dL_law_216 (by decide) ?_
    refine xi_inc hx hb dL_law_217 ?_
    refine ls_ld hx hb hXs hbl hbA hS (3 * i + 1) (by omega) hL dL_law_218 ?_
    rw [← hxx]
    refine lv_aload_n hx hb dL_law_219 rfl (lv_at hl 1 rfl) ?_
    refine ls_h (As := [.ref (q 0), .int 0, .ref a]) (rest := []) ⟨hx, hb, hml, hown, hts⟩ (hL_step_t0 l D q cA cL a f S okS hl9 hm _) (vx_cwSW 3 hts (gd_SW bw_133 bw_134 bw_0 bw_521) rfl rfl rfl (by decide +kernel) ⟨Nat.le_of_ble_eq_true rfl, Nat.le_of_ble_eq_true rfl⟩) hX hK hP hD hS rfl hl.1 (by subst hw; rfl) (Nat.le_of_ble_eq_true rfl) dL_law_220 ⟨hc, hs6⟩ (fun r5 z H locs hz hP hD hS => ?_)
    refine lv_istore (lv' := [(5, .int r5), (4, .int (nI (3 * i))), (3, .ref a), (2, .ref (q2 0)), (1, .ref (q 0)), (0, .ref b)]) hx hb dL_law_223 hl (by decide) rfl (fun ls hl => ?_)
    refine lv_aload_n hx hb dL_law_225 rfl (lv_at hl 3 rfl) ?_
    refine lv_aload_n hx hb dL_law_226 rfl (lv_at hl 5 rfl) ?_
    refine lv_iload hx hb dL_law_227 (lv_at hl 1 rfl) ?_
    refine lv_iconst (v := 1) hx hb dL_law_229 (by decide) ?_
    refine xi_inc hx hb dL_law_230 ?_
    refine ls_ld hx hb hXs hbl hbA hS (3 * i + 1) (by omega) hL dL_law_231 ?_
    rw [← hxx]
    refine ls_m (As := [.int 0]) (rest := []) ⟨hx, hb, hml, hown, hts⟩ (kX1_step_0 l D q2 cB T okT hI.gl hI.n40 _) (cwV 1 hts (gd_V bw_312 bw_313 bw_314 bw_2 bw_315) rfl rfl rfl (by decide +kernel) ⟨Nat.le_of_ble_eq_true rfl, Nat.le_of_ble_eq_true rfl⟩) hK hP hD hS rfl hl.1 (by subst hw; rfl) (Nat.le_of_ble_eq_true rfl) dL_law_232 ⟨hc, hs6⟩ (fun r6 u H locs hu hP hD hS => ?_)
    refine lv_istore (lv' := [(6, .int r6), (5, .int r5), (4, .int (nI (3 * i))), (3, .ref a), (2, .ref (q2 0)), (1, .ref (q 0)), (0, .ref b)]) hx hb dL_law_235 hl (by decide) rfl (fun ls hl => ?_)
    obtain ⟨z5, z6, z7, z8⟩ := hz
    obtain ⟨u1, u2, u3, u4, u5⟩ := hu
    have em : mu_L (vML T) = mu_L (vXL S) := by rw [hI.1.2.2.2.1]
    rw [em] at u1 u2 u3
    have tI : LI z.1 u := hI.step z6 z7 z8 u2 u3 u4 u5
    rw [← hI.1.2.2.2.1, ← hI.1.2.2.2.2.1] at u1
    rw [if_pos hm] at u1
    have t5 : yth u = r5 := (congrArg Prod.snd u1).trans z5.symm
    have t6 : r5 = 0 → z.2 0 = Int32.toInt64 r6 := fun y => absurd (z5.symm.trans y) (by decide)
    exact lt_step (S := z.1) (T := u) (f := z.2) ⟨hx, hb, hml, hown, hts, hXs, hbl, hK, hX, hl9, hL⟩ tI hP hD hS hc hs6 kk hl t5 t6
  · refine lv_aload_n hx hb dL_law_212 rfl (lv_at hl 3 rfl) ?_
    refine lv_aload_n hx hb dL_law_213 rfl (lv_at hl 4 rfl) ?_
    refine lv_iload hx hb dL_law_214 (lv_at hl 0 rfl) ?_
    refine lv_iconst (v := 1) hx hb dL_law_216 (by decide) ?_
    refine xi_inc hx hb dL_law_217 ?_
    refine ls_ld hx hb hXs hbl hbA hS (3 * i + 1) (by omega) hL dL_law_218 ?_
    rw [← hxx]
    refine lv_aload_n hx hb dL_law_219 rfl (lv_at hl 1 rfl) ?_
    refine ls_h (As := [.ref (q 0), .int 0, .ref a]) (rest := []) ⟨hx, hb, hml, hown, hts⟩ (hL_step_0 l D q cA cL a f S okS hl9 hm _) (vx_cwSW 3 hts (gd_SW bw_133 bw_134 bw_0 bw_521) rfl rfl rfl (by decide +kernel) ⟨Nat.le_of_ble_eq_true rfl, Nat.le_of_ble_eq_true rfl⟩) hX hK hP hD hS rfl hl.1 (by subst hw; rfl) (Nat.le_of_ble_eq_true rfl) dL_law_220 ⟨hc, hs6⟩ (fun r5 z H locs hz hP hD hS => ?_)
    refine lv_istore (lv' := [(5, .int r5), (4, .int (nI (3 * i))), (3, .ref a), (2, .ref (q2 0)), (1, .ref (q 0)), (0, .ref b)]) hx hb dL_law_223 hl (by decide) rfl (fun ls hl => ?_)
    refine lv_aload_n hx hb dL_law_225 rfl (lv_at hl 3 rfl) ?_
    refine lv_aload_n hx hb dL_law_226 rfl (lv_at hl 5 rfl) ?_
    refine lv_iload hx hb dL_law_227 (lv_at hl 1 rfl) ?_
    refine lv_iconst (v := 1) hx hb dL_law_229 (by decide) ?_
    refine xi_inc hx hb dL_law_230 ?_
    refine ls_ld hx hb hXs hbl hbA hS (3 * i + 1) (by omega) hL dL_law_231 ?_
    rw [← hxx]
    refine ls_m (As := [.int 0]) (rest := []) ⟨hx, hb, hml, hown, hts⟩ (kX1_step_0 l D q2 cB T okT hI.gl hI.n40 _) (cwV 1 hts (gd_V bw_312 bw_313 bw_314 bw_2 bw_315) rfl rfl rfl (by decide +kernel) ⟨Nat.le_of_ble_eq_true rfl, Nat.le_of_ble_eq_true rfl⟩) hK hP hD hS rfl hl.1 (by subst hw; rfl) (Nat.le_of_ble_eq_true rfl) dL_law_232 ⟨hc, hs6⟩ (fun r6 u H locs hu hP hD hS => ?_)
    refine lv_istore (lv' := [(6, .int r6), (5, .int r5), (4, .int (nI (3 * i))), (3, .ref a), (2, .ref (q2 0)), (1, .ref (q 0)), (0, .ref b)]) hx hb dL_law_235 hl (by decide) rfl (fun ls hl => ?_)
    obtain ⟨z5, r1, z2, z3, z6, z7, z8⟩ := hz
    obtain ⟨u1, u2, u3, u4, u5⟩ := hu
    have em : mu_L (vML T) = mu_L (vXL S) := by rw [hI.1.2.2.2.1]
    rw [em] at u1 u2 u3
    have tI : LI z.1 u := hI.step z6 z7 z8 u2 u3 u4 u5
    rw [← hI.1.2.2.2.1, ← hI.1.2.2.2.2.1] at u1
    rw [if_neg hm] at u1
    have t5 : yth u = r5 := (congrArg Prod.snd u1).trans z5.symm
    have t6 : r5 = 0 → z.2 0 = Int32.toInt64 r6 := fun _ => by rw [z2, z3]; exact congrArg Int32.toInt64 (congrArg Prod.fst u1).symm
    exact lt_step (S := z.1) (T := u) (f := z.2) ⟨hx, hb, hml, hown, hts, hXs, hbl, hK, hX, hl9, hL⟩ tI hP hD hS hc hs6 kk hl t5 t6
  · refine lv_aload_n hx hb dL_law_212 rfl (lv_at hl 3 rfl) ?_
    refine lv_aload_n hx hb dL_law_213 rfl (lv_at hl 4 rfl) ?_
    refine lv_iload hx hb dL_law_214 (lv_at hl 0 rfl) ?_
    refine lv_iconst (v := 1) hx hb dL_law_216 (by decide) ?_
    refine xi_inc hx hb dL_law_217 ?_
    refine ls_ld hx hb hXs hbl hbA hS (3 * i + 1) (by omega) hL dL_law_218 ?_
    rw [← hxx]
    refine lv_aload_n hx hb dL_law_219 rfl (lv_at hl 1 rfl) ?_
    refine ls_h (As := [.ref (q 0), .int 1, .ref a]) (rest := []) ⟨hx, hb, hml, hown, hts⟩ (hL_step_1 l D q cA cL a f S okS hl9 (vs_never (fun _ _ => vf_1) _ _ _ _) _) (vx_cwSW 3 hts (gd_SW bw_133 bw_134 bw_0 bw_521) rfl rfl rfl (by decide +kernel) ⟨Nat.le_of_ble_eq_true rfl, Nat.le_of_ble_eq_true rfl⟩) hX hK hP hD hS rfl hl.1 (by subst hw; rfl) (Nat.le_of_ble_eq_true rfl) dL_law_220 ⟨hc, hs6⟩ (fun r5 z H locs hz hP hD hS => ?_)
    refine lv_istore (lv' := [(5, .int r5), (4, .int (nI (3 * i))), (3, .ref a), (2, .ref (q2 0)), (1, .ref (q 0)), (0, .ref b)]) hx hb dL_law_223 hl (by decide) rfl (fun ls hl => ?_)
    refine lv_aload_n hx hb dL_law_225 rfl (lv_at hl 3 rfl) ?_
    refine lv_aload_n hx hb dL_law_226 rfl (lv_at hl 5 rfl) ?_
    refine lv_iload hx hb dL_law_227 (lv_at hl 1 rfl) ?_
    refine lv_iconst (v := 1) hx hb dL_law_229 (by decide) ?_
    refine xi_inc hx hb dL_law_230 ?_
    refine ls_ld hx hb hXs hbl hbA hS (3 * i + 1) (by omega) hL dL_law_231 ?_
    rw [← hxx]
    refine ls_m (As := [.int 1]) (rest := []) ⟨hx, hb, hml, hown, hts⟩ (kX1_step_1 l D q2 cB T okT hI.gl hI.n40 _) (cwV 1 hts (gd_V bw_312 bw_313 bw_314 bw_2 bw_315) rfl rfl rfl (by decide +kernel) ⟨Nat.le_of_ble_eq_true rfl, Nat.le_of_ble_eq_true rfl⟩) hK hP hD hS rfl hl.1 (by subst hw; rfl) (Nat.le_of_ble_eq_true rfl) dL_law_232 ⟨hc, hs6⟩ (fun r6 u H locs hu hP hD hS => ?_)
    refine lv_istore (lv' := [(6, .int r6), (5, .int r5), (4, .int (nI (3 * i))), (3, .ref a), (2, .ref (q2 0)), (1, .ref (q 0)), (0, .ref b)]) hx hb dL_law_235 hl (by decide) rfl (fun ls hl => ?_)
    obtain ⟨z5, r1, z2, z3, z6, z7, z8⟩ := hz
    obtain ⟨u1, u2, u3, u4, u5⟩ := hu
    have em : mu_L (vML T) = mu_L (vXL S) := by rw [hI.1.2.2.2.1]
    rw [em] at u1 u2 u3
    have tI : LI z.1 u := hI.step z6 z7 z8 u2 u3 u4 u5
    rw [← hI.1.2.2.2.1, ← hI.1.2.2.2.2.1] at u1
    rw [if_neg (vs_never (fun _ _ => vf_1) _ _ _ _)] at u1
    have t5 : yth u = r5 := (congrArg Prod.snd u1).trans z5.symm
    have t6 : r5 = 0 → z.2 0 = Int32.toInt64 r6 := fun _ => by rw [z2, z3]; exact congrArg Int32.toInt64 (congrArg Prod.fst u1).symm
    exact lt_step (S := z.1) (T := u) (f := z.2) ⟨hx, hb, hml, hown, hts, hXs, hbl, hK, hX, hl9, hL⟩ tI hP hD hS hc hs6 kk hl t5 t6
  · refine lv_aload_n hx hb dL_law_212 rfl (lv_at hl 3 rfl) ?_
    refine lv_aload_n hx hb dL_law_213 rfl (lv_at hl 4 rfl) ?_
    refine lv_iload hx hb dL_law_214 (lv_at hl 0 rfl) ?_
    refine lv_iconst (v := 1) hx hb dL_law_216 (by decide) ?_
    refine xi_inc hx hb dL_law_217 ?_
    refine ls_ld hx hb hXs hbl hbA hS (3 * i + 1) (by omega) hL dL_law_218 ?_
    rw [← hxx]
    refine lv_aload_n hx hb dL_law_219 rfl (lv_at hl 1 rfl) ?_
    refine ls_h (As := [.ref (q 0), .int 2, .ref a]) (rest := []) ⟨hx, hb, hml, hown, hts⟩ (hL_step_2 l D q cA cL a f S okS hl9 (vs_never (fun _ _ => vf_2) _ _ _ _) _) (vx_cwSW 3 hts (gd_SW bw_133 bw_134 bw_0 bw_521) rfl rfl rfl (by decide +kernel) ⟨Nat.le_of_ble_eq_true rfl, Nat.le_of_ble_eq_true rfl⟩) hX hK hP hD hS rfl hl.1 (by subst hw; rfl) (Nat.le_of_ble_eq_true rfl) dL_law_220 ⟨hc, hs6⟩ (fun r5 z H locs hz hP hD hS => ?_)
    refine lv_istore (lv' := [(5, .int r5), (4, .int (nI (3 * i))), (3, .ref a), (2, .ref (q2 0)), (1, .ref (q 0)), (0, .ref b)]) hx hb dL_law_223 hl (by decide) rfl (fun ls hl => ?_)
    refine lv_aload_n hx hb dL_law_225 rfl (lv_at hl 3 rfl) ?_
    refine lv_aload_n hx hb dL_law_226 rfl (lv_at hl 5 rfl) ?_
    refine lv_iload hx hb dL_law_227 (lv_at hl 1 rfl) ?_
    refine lv_iconst (v := 1) hx hb dL_law_229 (by decide) ?_
    refine xi_inc hx hb dL_law_230 ?_
    refine ls_ld hx hb hXs hbl hbA hS (3 * i + 1) (by omega) hL dL_law_231 ?_
    rw [← hxx]
    refine ls_m (As := [.int 2]) (rest := []) ⟨hx, hb, hml, hown, hts⟩ (kX1_step_2 l D q2 cB T okT hI.gl hI.n40 _) (cwV 1 hts (gd_V bw_312 bw_313 bw_314 bw_2 bw_315) rfl rfl rfl (by decide +kernel) ⟨Nat.le_of_ble_eq_true rfl, Nat.le_of_ble_eq_true rfl⟩) hK hP hD hS rfl hl.1 (by subst hw; rfl) (Nat.le_of_ble_eq_true rfl) dL_law_232 ⟨hc, hs6⟩ (fun r6 u H locs hu hP hD hS => ?_)
    refine lv_istore (lv' := [(6, .int r6), (5, .int r5), (4, .int (nI (3 * i))), (3, .ref a), (2, .ref (q2 0)), (1, .ref (q 0)), (0, .ref b)]) hx hb dL_law_235 hl (by decide) rfl (fun ls hl => ?_)
    obtain ⟨z5, r1, z2, z3, z6, z7, z8⟩ := hz
    obtain ⟨u1, u2, u3, u4, u5⟩ := hu
    have em : mu_L (vML T) = mu_L (vXL S) := by rw [hI.1.2.2.2.1]
    rw [em] at u1 u2 u3
    have tI : LI z.1 u := hI.step z6 z7 z8 u2 u3 u4 u5
    rw [← hI.1.2.2.2.1, ← hI.1.2.2.2.2.1] at u1
    rw [if_neg (vs_never (fun _ _ => vf_2) _ _ _ _)] at u1
    have t5 : yth u = r5 := (congrArg Prod.snd u1).trans z5.symm
    have t6 : r5 = 0 → z.2 0 = Int32.toInt64 r6 := fun _ => by rw [z2, z3]; exact congrArg Int32.toInt64 (congrArg Prod.fst u1).symm
    exact lt_step (S := z.1) (T := u) (f := z.2) ⟨hx, hb, hml, hown, hts, hXs, hbl, hK, hX, hl9, hL⟩ tI hP hD hS hc hs6 kk hl t5 t6
  · refine lv_aload_n hx hb dL_law_212 rfl (lv_at hl 3 rfl) ?_
    refine lv_aload_n hx hb dL_law_213 rfl (lv_at hl 4 rfl) ?_
    refine lv_iload hx hb dL_law_214 (lv_at hl 0 rfl) ?_
    refine lv_iconst (v := 1) hx hb dL_law_216 (by decide) ?_
    refine xi_inc hx hb dL_law_217 ?_
    refine ls_ld hx hb hXs hbl hbA hS (3 * i + 1) (by omega) hL dL_law_218 ?_
    rw [← hxx]
    refine lv_aload_n hx hb dL_law_219 rfl (lv_at hl 1 rfl) ?_
    refine ls_h (As := [.ref (q 0), .int 3, .ref a]) (rest := []) ⟨hx, hb, hml, hown, hts⟩ (hL_step_t3 l D q cA cL a f S okS hl9 hm _) (vx_cwSW 3 hts (gd_SW bw_133 bw_134 bw_0 bw_521) rfl rfl rfl (by decide +kernel) ⟨Nat.le_of_ble_eq_true rfl, Nat.le_of_ble_eq_true rfl⟩) hX hK hP hD hS rfl hl.1 (by subst hw; rfl) (Nat.le_of_ble_eq_true rfl) dL_law_220 ⟨hc, hs6⟩ (fun r5 z H locs hz hP hD hS => ?_)
    refine lv_istore (lv' := [(5, .int r5), (4, .int (nI (3 * i))), (3, .ref a), (2, .ref (q2 0)), (1, .ref (q 0)), (0, .ref b)]) hx hb dL_law_223 hl (by decide) rfl (fun ls hl => ?_)
    refine lv_aload_n hx hb dL_law_225 rfl (lv_at hl 3 rfl) ?_
    refine lv_aload_n hx hb dL_law_226 rfl (lv_at hl 5 rfl) ?_
    refine lv_iload hx hb dL_law_227 (lv_at hl 1 rfl) ?_
    refine lv_iconst (v := 1) hx hb dL_law_229 (by decide) ?_
    refine xi_inc hx hb dL_law_230 ?_
    refine ls_ld hx hb hXs hbl hbA hS (3 * i + 1) (by omega) hL dL_law_231 ?_
    rw [← hxx]
    refine ls_m (As := [.int 3]) (rest := []) ⟨hx, hb, hml, hown, hts⟩ (kX1_step_3 l D q2 cB T okT hI.gl hI.n40 _) (cwV 1 hts (gd_V bw_312 bw_313 bw_314 bw_2 bw_315) rfl rfl rfl (by decide +kernel) ⟨Nat.le_of_ble_eq_true rfl, Nat.le_of_ble_eq_true rfl⟩) hK hP hD hS rfl hl.1 (by subst hw; rfl) (Nat.le_of_ble_eq_true rfl) dL_law_232 ⟨hc, hs6⟩ (fun r6 u H locs hu hP hD hS => ?_)
    refine lv_istore (lv' := [(6, .int r6), (5, .int r5), (4, .int (nI (3 * i))), (3, .ref a), (2, .ref (q2 0)), (1, .ref (q 0)), (0, .ref b)]) hx hb dL_law_235 hl (by decide) rfl (fun ls hl => ?_)
    obtain ⟨z5, z6, z7, z8⟩ := hz
    obtain ⟨u1, u2, u3, u4, u5⟩ := hu
    have em : mu_L (vML T) = mu_L (vXL S) := by rw [hI.1.2.2.2.1]
    rw [em] at u1 u2 u3
    have tI : LI z.1 u := hI.step z6 z7 z8 u2 u3 u4 u5
    rw [← hI.1.2.2.2.1, ← hI.1.2.2.2.2.1] at u1
    rw [if_pos hm] at u1
    have t5 : yth u = r5 := (congrArg Prod.snd u1).trans z5.symm
    have t6 : r5 = 0 → z.2 0 = Int32.toInt64 r6 := fun y => absurd (z5.symm.trans y) (by decide)
    exact lt_step (S := z.1) (T := u) (f := z.2) ⟨hx, hb, hml, hown, hts, hXs, hbl, hK, hX, hl9, hL⟩ tI hP hD hS hc hs6 kk hl t5 t6
  · refine lv_aload_n hx hb dL_law_212 rfl (lv_at hl 3 rfl) ?_
    refine lv_aload_n hx hb dL_law_213 rfl (lv_at hl 4 rfl) ?_
    refine lv_iload hx hb dL_law_214 (lv_at hl 0 rfl) ?_
    refine lv_iconst (v := 1) hx hb dL_law_216 (by decide) ?_
    refine xi_inc hx hb dL_law_217 ?_
    refine ls_ld hx hb hXs hbl hbA hS (3 * i + 1) (by omega) hL dL_law_218 ?_
    rw [← hxx]
    refine lv_aload_n hx hb dL_law_219 rfl (lv_at hl 1 rfl) ?_
    refine ls_h (As := [.ref (q 0), .int 3, .ref a]) (rest := []) ⟨hx, hb, hml, hown, hts⟩ (hL_step_3 l D q cA cL a f S okS hl9 hm _) (vx_cwSW 3 hts (gd_SW bw_133 bw_134 bw_0 bw_521) rfl rfl rfl (by decide +kernel) ⟨Nat.le_of_ble_eq_true rfl, Nat.le_of_ble_eq_true rfl⟩) hX hK hP hD hS rfl hl.1 (by subst hw; rfl) (Nat.le_of_ble_eq_true rfl) dL_law_220 ⟨hc, hs6⟩ (fun r5 z H locs hz hP hD hS => ?_)
    refine lv_istore (lv' := [(5, .int r5), (4, .int (nI (3 * i))), (3, .ref a), (2, .ref (q2 0)), (1, .ref (q 0)), (0, .ref b)]) hx hb dL_law_223 hl (by decide) rfl (fun ls hl => ?_)
    refine lv_aload_n hx hb dL_law_225 rfl (lv_at hl 3 rfl) ?_
    refine lv_aload_n hx hb dL_law_226 rfl (lv_at hl 5 rfl) ?_
    refine lv_iload hx hb dL_law_227 (lv_at hl 1 rfl) ?_
    refine lv_iconst (v := 1) hx hb dL_law_229 (by decide) ?_
    refine xi_inc hx hb dL_law_230 ?_
    refine ls_ld hx hb hXs hbl hbA hS (3 * i + 1) (by omega) hL dL_law_231 ?_
    rw [← hxx]
    refine ls_m (As := [.int 3]) (rest := []) ⟨hx, hb, hml, hown, hts⟩ (kX1_step_3 l D q2 cB T okT hI.gl hI.n40 _) (cwV 1 hts (gd_V bw_312 bw_313 bw_314 bw_2 bw_315) rfl rfl rfl (by decide +kernel) ⟨Nat.le_of_ble_eq_true rfl, Nat.le_of_ble_eq_true rfl⟩) hK hP hD hS rfl hl.1 (by subst hw; rfl) (Nat.le_of_ble_eq_true rfl) dL_law_232 ⟨hc, hs6⟩ (fun r6 u H locs hu hP hD hS => ?_)
    refine lv_istore (lv' := [(6, .int r6), (5, .int r5), (4, .int (nI (3 * i))), (3, .ref a), (2, .ref (q2 0)), (1, .ref (q 0)), (0, .ref b)]) hx hb dL_law_235 hl (by decide) rfl (fun ls hl => ?_)
    obtain ⟨z5, r1, z2, z3, z6, z7, z8⟩ := hz
    obtain ⟨u1, u2, u3, u4, u5⟩ := hu
    have em : mu_L (vML T) = mu_L (vXL S) := by rw [hI.1.2.2.2.1]
    rw [em] at u1 u2 u3
    have tI : LI z.1 u := hI.step z6 z7 z8 u2 u3 u4 u5
    rw [← hI.1.2.2.2.1, ← hI.1.2.2.2.2.1] at u1
    rw [if_neg hm] at u1
    have t5 : yth u = r5 := (congrArg Prod.snd u1).trans z5.symm
    have t6 : r5 = 0 → z.2 0 = Int32.toInt64 r6 := fun _ => by rw [z2, z3]; exact congrArg Int32.toInt64 (congrArg Prod.fst u1).symm
    exact lt_step (S := z.1) (T := u) (f := z.2) ⟨hx, hb, hml, hown, hts, hXs, hbl, hK, hX, hl9, hL⟩ tI hP hD hS hc hs6 kk hl t5 t6

theorem el_cases {S : XS} {T : MS} (hI : LI S T) (x : Int32) : k_isV x = false ∨
    (∃ v : Nat, 1 ≤ v ∧ v ≤ 10 ∧ x = nI v ∧ q_g2 (vXL S) (nI v) (q_cw (vXL S) (k_both (nI v))) (xn S) 0 [] = none ∧ q_cw (vML T) (k_both (nI v)) < (m_g2 (vML T) (nI v) (yn T) 0 []).length) ∨
    (∃ v : Nat, 1 ≤ v ∧ v ≤ 10 ∧ x = nI v ∧ q_g2 (vXL S) (nI v) (q_cw (vXL S) (k_both (nI v))) (xn S) 0 [] = some (m_g2 (vML T) (nI v) (yn T) 0 []) ∧ (m_g2 (vML T) (nI v) (yn T) 0 []).length ≤ q_cw (vXL S) (k_both (nI v)) ∧ (m_g2 (vML T) (nI v) (yn T) 0 []).length ≤ q_cw (vML T) (k_both (nI v)) ∧ xh S + q_cw (vXL S) (k_pos (nI v)) + 1 ≤ 200 ∧ yh T + q_cw (vML T) (k_pos (nI v)) + 1 ≤ 200) ∨
    (∃ v : Nat, 1 ≤ v ∧ v ≤ 10 ∧ x = nI v ∧ q_g2 (vXL S) (nI v) (q_cw (vXL S) (k_both (nI v))) (xn S) 0 [] = some (m_g2 (vML T) (nI v) (yn T) 0 []) ∧ (m_g2 (vML T) (nI v) (yn T) 0 []).length ≤ q_cw (vML T) (k_both (nI v)) ∧ (¬ xh S + q_cw (vXL S) (k_pos (nI v)) + 1 ≤ 200) ∧ 200 < yh T + q_cw (vML T) (k_pos (nI v)) + 1) := by
  rcases Bool.eq_false_or_eq_true (k_isV x) with h9 | h9
  · obtain ⟨v, h1, h2, hv⟩ := isV_of h9
    have e1 : ∀ b, q_cw (vML T) b = q_cw (vXL S) b := fun b => by rw [hI.1.2.2.2.1]
    rcases hI.gath (nI v) with ⟨g1, g2⟩ | ⟨g1, g2⟩
    · by_cases z : xh S + q_cw (vXL S) (k_pos (nI v)) + 1 ≤ 200
      · exact Or.inr (Or.inr (Or.inl ⟨v, h1, h2, hv, g1, g2, by rw [e1]; exact g2, z, by rw [e1, hI.h]; exact z⟩))
      · exact Or.inr (Or.inr (Or.inr ⟨v, h1, h2, hv, g1, by rw [e1]; exact g2, z, by rw [e1, hI.h]; omega⟩))
    · exact Or.inr (Or.inl ⟨v, h1, h2, hv, g1, by rw [e1]; exact g2⟩)
  · exact Or.inl h9

set_option maxHeartbeats 4000000 in
set_option maxRecDepth 100000 in
theorem lt_eliminate (E : lE p l s m c b L xs D cA cL cB) (hI : LI S T) (hP : va_P D vwCl (wL q cA S a cL f q2 cB T) H) (hD : va_D (aL s) (wL q cA S a cL f q2 cB T)) (hS : va_S (aL s) s.heap H locs) (hc : cells + 1 ≤ room_1.cells) (hs6 : slots + 6 ≤ room_1.slots) (kk : lK p l e s m below meth c Q b D q q2 cA cL cB a i cells slots) {r5 r6 : Int32} (hl : lv_has ls 7 [(6, .int r6), (5, .int r5), (4, .int (nI (3 * i))), (3, .ref a), (2, .ref (q2 0)), (1, .ref (q 0)), (0, .ref b)]) (h5 : yth T = r5) (h6 : r5 = 0 → f 0 = Int32.toInt64 r6) : W p l e room_1 s m #[Value.ref b] below meth c H locs (cells + 1) (slots + 6) Q (F0 m 293 ls []) := by
  obtain ⟨hx, hb, hml, hown, hts, hXs, hbl, hK, hX, hl9, hL⟩ := E
  have hbA : ¬ aL s b := Nat.not_le.mpr hbl
  have okS := hI.2.1
  have okT := hI.2.2.1
  refine lv_aload_n hx hb dL_law_293 rfl (lv_at hl 4 rfl) ?_
  refine xc_rv (w0 := wM q2 cB T) (As := []) (rest := []) ⟨hx, hb, hml, hown, hts⟩ (kX1_thrown l D q2 cB T okT) (cwV 0 hts (gd_V bw_282 bw_283 bw_284 bw_2 bw_285) rfl rfl rfl (by decide +kernel) ⟨Nat.le_of_ble_eq_true rfl, Nat.le_of_ble_eq_true rfl⟩) (va_recv (ci := 1) (q0 := 0) (tys := tyL cA cL cB) hK (pt_PR hP) rfl rfl) (pt_PR hP) (hK.sub [2] rfl) rfl hl.1 rfl (Nat.le_of_ble_eq_true rfl) dL_law_294 ⟨hc, hs6⟩ ?_
  refine lv_iload hx hb dL_law_297 (lv_at hl 1 rfl) ?_
  refine lv_icmp_eq (tgt := 304) hx hb dL_law_299 (by decide) (fun _ => ?_) (fun z9 => absurd h5 z9)
  refine lv_iload hx hb dL_law_304 (lv_at hl 1 rfl) ?_
  have fin : W p l e room_1 s m #[Value.ref b] below meth c H locs (cells + 1) (slots + 6) Q (F0 m 321 ls []) := by
    refine lv_goto (tgt := 674) hx hb dL_law_321 (by decide) ?_
    exact kk S T f H locs ls hI (lv_sub hl [2, 3, 4, 5, 6] rfl) hP hD hS
  refine lv_if_ne (tgt := 321) hx hb dL_law_306 (by decide) (fun _ => fin) (fun z9 => ?_)
  have z5 : r5 = 0 := by first | exact z9 | exact Classical.byContradiction z9
  refine lv_aload_n hx hb dL_law_309 rfl (lv_at hl 3 rfl) ?_
  refine lv_iconst (v := 0) hx hb dL_law_310 (by decide) ?_
  refine ls_ll hx hb hK hP dL_law_311 ?_
  refine lv_iload hx hb dL_law_312 (lv_at hl 0 rfl) ?_
  refine lv_i2l (v := Int32.toInt64 r6) hx hb dL_law_314 rfl ?_
  refine W.lcmp hx hb dL_law_315 ?_
  refine lv_if_eq (tgt := 321) hx hb dL_law_316 (by decide) (fun _ => fin) (fun z8 => absurd (by rw [h6 z5]; exact lcmp_self _) z8)

set_option maxHeartbeats 4000000 in
set_option maxRecDepth 100000 in
theorem lo_eliminate (E : lE p l s m c b L xs D cA cL cB) (hI : LI S T) (hP : va_P D vwCl (wL q cA S a cL f q2 cB T) H) (hD : va_D (aL s) (wL q cA S a cL f q2 cB T)) (hS : va_S (aL s) s.heap H locs) (hc : cells + 1 ≤ room_1.cells) (hs6 : slots + 6 ≤ room_1.slots) (kk : lK p l e s m below meth c Q b D q q2 cA cL cB a i cells slots) (hl : lv_has ls 7 (lvL b a i q q2)) (hi : 3 * i + 3 ≤ L) : W p l e room_1 s m #[Value.ref b] below meth c H locs cells slots Q (F0 m 268 ls []) := by
  obtain ⟨hx, hb, hml, hown, hts, hXs, hbl, hK, hX, hl9, hL⟩ := E
  have hbA : ¬ aL s b := Nat.not_le.mpr hbl
  have okS := hI.2.1
  have okT := hI.2.2.1
  have hl : lv_has ls 7 [(4, .int (nI (3 * i))), (3, .ref a), (2, .ref (q2 0)), (1, .ref (q 0)), (0, .ref b)] := hl
  obtain ⟨x, hxx⟩ : ∃ x, x = xs (3 * i + 1) := ⟨_, rfl⟩
  rcases el_cases hI x with h9 | ⟨v, h1, h2, hv, hg2, hlt⟩ | ⟨v, h1, h2, hv, hg2, hle, hle2, hr1, hr2⟩ | ⟨v, h1, h2, hv, hg2, hle2, hr1, hr2⟩
  · refine lv_aload_n hx hb dL_law_268 rfl (lv_at hl 3 rfl) ?_
    refine lv_aload_n hx hb dL_law_269 rfl (lv_at hl 4 rfl) ?_
    refine lv_iload hx hb dL_law_270 (lv_at hl 0 rfl) ?_
    refine lv_iconst (v := 1) hx hb dL_law_272 (by decide) ?_
    refine xi_inc hx hb dL_law_273 ?_
    refine ls_ld hx hb hXs hbl hbA hS (3 * i + 1) (by omega) hL dL_law_274 ?_
    rw [← hxx]
    refine lv_aload_n hx hb dL_law_275 rfl (lv_at hl 1 rfl) ?_
    refine ls_h (As := [.ref (q 0), .int x, .ref a]) (rest := []) ⟨hx, hb, hml, hown, hts⟩ (hL_eliminate_bad l D q cA cL a f S okS hl9 x h9 _) (vx_cwSW 3 hts (gd_SW bw_200 bw_201 bw_0 bw_522) rfl rfl rfl (by decide +kernel) ⟨Nat.le_of_ble_eq_true rfl, Nat.le_of_ble_eq_true rfl⟩) hX hK hP hD hS rfl hl.1 rfl (Nat.le_of_ble_eq_true rfl) dL_law_276 ⟨hc, hs6⟩ (fun r5 z H locs hz hP hD hS => ?_)
    refine lv_istore (lv' := [(5, .int r5), (4, .int (nI (3 * i))), (3, .ref a), (2, .ref (q2 0)), (1, .ref (q 0)), (0, .ref b)]) hx hb dL_law_279 hl (by decide) rfl (fun ls hl => ?_)
    refine lv_aload_n hx hb dL_law_281 rfl (lv_at hl 3 rfl) ?_
    refine lv_aload_n hx hb dL_law_282 rfl (lv_at hl 5 rfl) ?_
    refine lv_iload hx hb dL_law_283 (lv_at hl 1 rfl) ?_
    refine lv_iconst (v := 1) hx hb dL_law_285 (by decide) ?_
    refine xi_inc hx hb dL_law_286 ?_
    refine ls_ld hx hb hXs hbl hbA hS (3 * i + 1) (by omega) hL dL_law_287 ?_
    rw [← hxx]
    refine ls_m (As := [.int x]) (rest := []) ⟨hx, hb, hml, hown, hts⟩ (kX1_eliminate_no l D q2 cB T okT x h9 _) (cwV 1 hts (gd_V bw_349 bw_350 bw_351 bw_2 bw_352) rfl rfl rfl (by decide +kernel) ⟨Nat.le_of_ble_eq_true rfl, Nat.le_of_ble_eq_true rfl⟩) hK hP hD hS rfl hl.1 rfl (Nat.le_of_ble_eq_true rfl) dL_law_288 ⟨hc, hs6⟩ (fun r6 u H locs hu hP hD hS => ?_)
    refine lv_istore (lv' := [(6, .int r6), (5, .int r5), (4, .int (nI (3 * i))), (3, .ref a), (2, .ref (q2 0)), (1, .ref (q 0)), (0, .ref b)]) hx hb dL_law_291 hl (by decide) rfl (fun ls hl => ?_)
    obtain ⟨z5, z1⟩ := hz
    obtain ⟨-, u1⟩ := hu
    have tI : LI z.1 u := by rw [z1, u1]; exact hI.th 1
    have t5 : yth u = r5 := by rw [u1, z5]
    have t6 : r5 = 0 → z.2 0 = Int32.toInt64 r6 := fun y => absurd (z5.symm.trans y) (by decide)
    exact lt_eliminate (S := z.1) (T := u) (f := z.2) ⟨hx, hb, hml, hown, hts, hXs, hbl, hK, hX, hl9, hL⟩ tI hP hD hS hc hs6 kk hl t5 t6
  · refine lv_aload_n hx hb dL_law_268 rfl (lv_at hl 3 rfl) ?_
    refine lv_aload_n hx hb dL_law_269 rfl (lv_at hl 4 rfl) ?_
    refine lv_iload hx hb dL_law_270 (lv_at hl 0 rfl) ?_
    refine lv_iconst (v := 1) hx hb dL_law_272 (by decide) ?_
    refine xi_inc hx hb dL_law_273 ?_
    refine ls_ld hx hb hXs hbl hbA hS (3 * i + 1) (by omega) hL dL_law_274 ?_
    rw [← hxx]
    refine lv_aload_n hx hb dL_law_275 rfl (lv_at hl 1 rfl) ?_
    refine ls_h (As := [.ref (q 0), .int (nI v), .ref a]) (rest := []) ⟨hx, hb, hml, hown, hts⟩ (hL_eliminate_no l D q cA cL a f S okS hl9 v h1 h2 hg2 _) (vx_cwSW 3 hts (gd_SW bw_200 bw_201 bw_0 bw_522) rfl rfl rfl (by decide +kernel) ⟨Nat.le_of_ble_eq_true rfl, Nat.le_of_ble_eq_true rfl⟩) hX hK hP hD hS rfl hl.1 (by subst hv; rfl) (Nat.le_of_ble_eq_true rfl) dL_law_276 ⟨hc, hs6⟩ (fun r5 z H locs hz hP hD hS => ?_)
    refine lv_istore (lv' := [(5, .int r5), (4, .int (nI (3 * i))), (3, .ref a), (2, .ref (q2 0)), (1, .ref (q 0)), (0, .ref b)]) hx hb dL_law_279 hl (by decide) rfl (fun ls hl => ?_)
    refine lv_aload_n hx hb dL_law_281 rfl (lv_at hl 3 rfl) ?_
    refine lv_aload_n hx hb dL_law_282 rfl (lv_at hl 5 rfl) ?_
    refine lv_iload hx hb dL_law_283 (lv_at hl 1 rfl) ?_
    refine lv_iconst (v := 1) hx hb dL_law_285 (by decide) ?_
    refine xi_inc hx hb dL_law_286 ?_
    refine ls_ld hx hb hXs hbl hbA hS (3 * i + 1) (by omega) hL dL_law_287 ?_
    rw [← hxx]
    refine ls_m (As := [.int (nI v)]) (rest := []) ⟨hx, hb, hml, hown, hts⟩ (kX1_eliminate_much l D q2 cB T okT v h1 h2 hI.gl hI.n40 _ rfl hlt _) (cwV 1 hts (gd_V bw_349 bw_350 bw_351 bw_2 bw_352) rfl rfl rfl (by decide +kernel) ⟨Nat.le_of_ble_eq_true rfl, Nat.le_of_ble_eq_true rfl⟩) hK hP hD hS rfl hl.1 (by subst hv; rfl) (Nat.le_of_ble_eq_true rfl) dL_law_288 ⟨hc, hs6⟩ (fun r6 u H locs hu hP hD hS => ?_)
    refine lv_istore (lv' := [(6, .int r6), (5, .int r5), (4, .int (nI (3 * i))), (3, .ref a), (2, .ref (q2 0)), (1, .ref (q 0)), (0, .ref b)]) hx hb dL_law_291 hl (by decide) rfl (fun ls hl => ?_)
    obtain ⟨z5, r1, z2, z3, f1, z1⟩ := hz
    obtain ⟨u6, u2, u3⟩ := hu
    have tI : LI z.1 u := by rw [z1]; exact (hI.els u2 0 u3).re f1
    have t5 : yth u = r5 := (congrArg (fun w => yth w) u3).trans z5.symm
    have t6 : r5 = 0 → z.2 0 = Int32.toInt64 r6 := fun _ => by rw [z2, z3, u6]
    exact lt_eliminate (S := z.1) (T := u) (f := z.2) ⟨hx, hb, hml, hown, hts, hXs, hbl, hK, hX, hl9, hL⟩ tI hP hD hS hc hs6 kk hl t5 t6
  · refine lv_aload_n hx hb dL_law_268 rfl (lv_at hl 3 rfl) ?_
    refine lv_aload_n hx hb dL_law_269 rfl (lv_at hl 4 rfl) ?_
    refine lv_iload hx hb dL_law_270 (lv_at hl 0 rfl) ?_
    refine lv_iconst (v := 1) hx hb dL_law_272 (by decide) ?_
    refine xi_inc hx hb dL_law_273 ?_
    refine ls_ld hx hb hXs hbl hbA hS (3 * i + 1) (by omega) hL dL_law_274 ?_
    rw [← hxx]
    refine lv_aload_n hx hb dL_law_275 rfl (lv_at hl 1 rfl) ?_
    refine ls_h (As := [.ref (q 0), .int (nI v), .ref a]) (rest := []) ⟨hx, hb, hml, hown, hts⟩ (hL_eliminate_do l D q cA cL a f S okS hl9 v h1 h2 _ hg2 hr1 _) (vx_cwSW 3 hts (gd_SW bw_200 bw_201 bw_0 bw_522) rfl rfl rfl (by decide +kernel) ⟨Nat.le_of_ble_eq_true rfl, Nat.le_of_ble_eq_true rfl⟩) hX hK hP hD hS rfl hl.1 (by subst hv; rfl) (Nat.le_of_ble_eq_true rfl) dL_law_276 ⟨hc, hs6⟩ (fun r5 z H locs hz hP hD hS => ?_)
    refine lv_istore (lv' := [(5, .int r5), (4, .int (nI (3 * i))), (3, .ref a), (2, .ref (q2 0)), (1, .ref (q 0)), (0, .ref b)]) hx hb dL_law_279 hl (by decide) rfl (fun ls hl => ?_)
    refine lv_aload_n hx hb dL_law_281 rfl (lv_at hl 3 rfl) ?_
    refine lv_aload_n hx hb dL_law_282 rfl (lv_at hl 5 rfl) ?_
    refine lv_iload hx hb dL_law_283 (lv_at hl 1 rfl) ?_
    refine lv_iconst (v := 1) hx hb dL_law_285 (by decide) ?_
    refine xi_inc hx hb dL_law_286 ?_
    refine ls_ld hx hb hXs hbl hbA hS (3 * i + 1) (by omega) hL dL_law_287 ?_
    rw [← hxx]
    refine ls_m (As := [.int (nI v)]) (rest := []) ⟨hx, hb, hml, hown, hts⟩ (kX1_eliminate_done l D q2 cB T okT v h1 h2 hI.gl hI.n40 _ rfl hle2 hr2 _) (cwV 1 hts (gd_V bw_349 bw_350 bw_351 bw_2 bw_352) rfl rfl rfl (by decide +kernel) ⟨Nat.le_of_ble_eq_true rfl, Nat.le_of_ble_eq_true rfl⟩) hK hP hD hS rfl hl.1 (by subst hv; rfl) (Nat.le_of_ble_eq_true rfl) dL_law_288 ⟨hc, hs6⟩ (fun r6 u H locs hu hP hD hS => ?_)
    refine lv_istore (lv' := [(6, .int r6), (5, .int r5), (4, .int (nI (3 * i))), (3, .ref a), (2, .ref (q2 0)), (1, .ref (q 0)), (0, .ref b)]) hx hb dL_law_291 hl (by decide) rfl (fun ls hl => ?_)
    obtain ⟨z5, r1, z2, z3, x1, x2, x3, x4, x5, x6, x7⟩ := hz
    obtain ⟨u6, y1, y2, y3, y4, y5, y6, y7, y8, y9⟩ := hu
    have tI : LI z.1 u := hI.elim rfl hle hr1 x1 x2 x3 x4 x5 x6 x7 y1 y2 y3 y4 y5 y6 y7 y9
    have t5 : yth u = r5 := y8.trans z5.symm
    have t6 : r5 = 0 → z.2 0 = Int32.toInt64 r6 := fun _ => by rw [z2, z3, u6]
    exact lt_eliminate (S := z.1) (T := u) (f := z.2) ⟨hx, hb, hml, hown, hts, hXs, hbl, hK, hX, hl9, hL⟩ tI hP hD hS hc hs6 kk hl t5 t6
  · refine lv_aload_n hx hb dL_law_268 rfl (lv_at hl 3 rfl) ?_
    refine lv_aload_n hx hb dL_law_269 rfl (lv_at hl 4 rfl) ?_
    refine lv_iload hx hb dL_law_270 (lv_at hl 0 rfl) ?_
    refine lv_iconst (v := 1) hx hb dL_law_272 (by decide) ?_
    refine xi_inc hx hb dL_law_273 ?_
    refine ls_ld hx hb hXs hbl hbA hS (3 * i + 1) (by omega) hL dL_law_274 ?_
    rw [← hxx]
    refine lv_aload_n hx hb dL_law_275 rfl (lv_at hl 1 rfl) ?_
    refine ls_h (As := [.ref (q 0), .int (nI v), .ref a]) (rest := []) ⟨hx, hb, hml, hown, hts⟩ (hL_eliminate_full l D q cA cL a f S okS hl9 v h1 h2 _ hg2 hr1 _) (vx_cwSW 3 hts (gd_SW bw_200 bw_201 bw_0 bw_522) rfl rfl rfl (by decide +kernel) ⟨Nat.le_of_ble_eq_true rfl, Nat.le_of_ble_eq_true rfl⟩) hX hK hP hD hS rfl hl.1 (by subst hv; rfl) (Nat.le_of_ble_eq_true rfl) dL_law_276 ⟨hc, hs6⟩ (fun r5 z H locs hz hP hD hS => ?_)
    refine lv_istore (lv' := [(5, .int r5), (4, .int (nI (3 * i))), (3, .ref a), (2, .ref (q2 0)), (1, .ref (q 0)), (0, .ref b)]) hx hb dL_law_279 hl (by decide) rfl (fun ls hl => ?_)
    refine lv_aload_n hx hb dL_law_281 rfl (lv_at hl 3 rfl) ?_
    refine lv_aload_n hx hb dL_law_282 rfl (lv_at hl 5 rfl) ?_
    refine lv_iload hx hb dL_law_283 (lv_at hl 1 rfl) ?_
    refine lv_iconst (v := 1) hx hb dL_law_285 (by decide) ?_
    refine xi_inc hx hb dL_law_286 ?_
    refine ls_ld hx hb hXs hbl hbA hS (3 * i + 1) (by omega) hL dL_law_287 ?_
    rw [← hxx]
    refine ls_m (As := [.int (nI v)]) (rest := []) ⟨hx, hb, hml, hown, hts⟩ (kX1_eliminate_full l D q2 cB T okT v h1 h2 hI.gl hI.n40 _ rfl hle2 hr2 _) (cwV 1 hts (gd_V bw_349 bw_350 bw_351 bw_2 bw_352) rfl rfl rfl (by decide +kernel) ⟨Nat.le_of_ble_eq_true rfl, Nat.le_of_ble_eq_true rfl⟩) hK hP hD hS rfl hl.1 (by subst hv; rfl) (Nat.le_of_ble_eq_true rfl) dL_law_288 ⟨hc, hs6⟩ (fun r6 u H locs hu hP hD hS => ?_)
    refine lv_istore (lv' := [(6, .int r6), (5, .int r5), (4, .int (nI (3 * i))), (3, .ref a), (2, .ref (q2 0)), (1, .ref (q 0)), (0, .ref b)]) hx hb dL_law_291 hl (by decide) rfl (fun ls hl => ?_)
    obtain ⟨z5, f1, z1⟩ := hz
    obtain ⟨u6, u2, u3⟩ := hu
    have tI : LI z.1 u := by rw [z1]; exact (hI.els u2 2 u3).re f1
    have t5 : yth u = r5 := (congrArg (fun w => yth w) u3).trans z5.symm
    have t6 : r5 = 0 → z.2 0 = Int32.toInt64 r6 := fun y => absurd (z5.symm.trans y) (by decide)
    exact lt_eliminate (S := z.1) (T := u) (f := z.2) ⟨hx, hb, hml, hown, hts, hXs, hbl, hK, hX, hl9, hL⟩ tI hP hD hS hc hs6 kk hl t5 t6

set_option maxHeartbeats 4000000 in
set_option maxRecDepth 100000 in
theorem lo_satisfiable (E : lE p l s m c b L xs D cA cL cB) (hI : LI S T) (hP : va_P D vwCl (wL q cA S a cL f q2 cB T) H) (hD : va_D (aL s) (wL q cA S a cL f q2 cB T)) (hS : va_S (aL s) s.heap H locs) (hc : cells + 1 ≤ room_1.cells) (hs6 : slots + 6 ≤ room_1.slots) (kk : lK p l e s m below meth c Q b D q q2 cA cL cB a i cells slots) (hl : lv_has ls 7 (lvL b a i q q2)) : W p l e room_1 s m #[Value.ref b] below meth c H locs cells slots Q (F0 m 324 ls []) := by
  obtain ⟨hx, hb, hml, hown, hts, hXs, hbl, hK, hX, hl9, hL⟩ := E
  have hbA : ¬ aL s b := Nat.not_le.mpr hbl
  have okS := hI.2.1
  have okT := hI.2.2.1
  have hl : lv_has ls 7 [(4, .int (nI (3 * i))), (3, .ref a), (2, .ref (q2 0)), (1, .ref (q 0)), (0, .ref b)] := hl
  have hf : cells + 0 ≤ room_1.cells ∧ slots + 0 ≤ room_1.slots := ⟨by omega, by omega⟩
  refine lv_aload_n hx hb dL_law_324 rfl (lv_at hl 3 rfl) ?_
  refine xc_rv (w0 := wX q cA S) (As := []) (rest := []) ⟨hx, hb, hml, hown, hts⟩ (kX0_satisfiable l D q cA S okS) (cwV 0 hts (gd_V bw_44 bw_45 bw_46 bw_1 bw_47) rfl rfl rfl (by decide +kernel) ⟨Nat.le_of_ble_eq_true rfl, Nat.le_of_ble_eq_true rfl⟩) (va_recv (ci := 0) (q0 := 0) (tys := tyL cA cL cB) hK hP rfl rfl) (pt_PL (pt_PL hP)) (hK.sub [0] rfl) rfl hl.1 rfl (Nat.le_of_ble_eq_true rfl) dL_law_325 hf ?_
  refine lv_aload_n hx hb dL_law_328 rfl (lv_at hl 2 rfl) ?_
  refine ls_m (As := []) (rest := [.int _]) ⟨hx, hb, hml, hown, hts⟩ (kX1_satisfiable l D q2 cB T okT hI.gl _) (cwV 0 hts (gd_V bw_356 bw_357 bw_358 bw_2 bw_359) rfl rfl rfl (by decide +kernel) ⟨Nat.le_of_ble_eq_true rfl, Nat.le_of_ble_eq_true rfl⟩) hK hP hD hS rfl hl.1 rfl (Nat.le_of_ble_eq_true rfl) dL_law_329 hf (fun r6 u H locs hu hP hD hS => ?_)
  obtain ⟨u6, u1⟩ := hu
  have tI : LI S u := by rw [u1]; exact hI.th 0
  have te : k_b (q_sat (vXL S)) = r6 := by rw [u6, hI.1.2.2.2.1]
  refine lv_icmp_eq (tgt := 674) hx hb dL_law_332 (by decide) (fun _ => ?_) (fun z9 => absurd te z9)
  refine xw_wide (k := cells + 1) (n9 := slots + 6) (by omega) (by omega) ?_
  exact kk S u f H locs ls tI hl hP hD hS

set_option maxHeartbeats 4000000 in
set_option maxRecDepth 100000 in
theorem lo_clauses (E : lE p l s m c b L xs D cA cL cB) (hI : LI S T) (hP : va_P D vwCl (wL q cA S a cL f q2 cB T) H) (hD : va_D (aL s) (wL q cA S a cL f q2 cB T)) (hS : va_S (aL s) s.heap H locs) (hc : cells + 1 ≤ room_1.cells) (hs6 : slots + 6 ≤ room_1.slots) (kk : lK p l e s m below meth c Q b D q q2 cA cL cB a i cells slots) (hl : lv_has ls 7 (lvL b a i q q2)) : W p l e room_1 s m #[Value.ref b] below meth c H locs cells slots Q (F0 m 337 ls []) := by
  obtain ⟨hx, hb, hml, hown, hts, hXs, hbl, hK, hX, hl9, hL⟩ := E
  have hbA : ¬ aL s b := Nat.not_le.mpr hbl
  have okS := hI.2.1
  have okT := hI.2.2.1
  have hl : lv_has ls 7 [(4, .int (nI (3 * i))), (3, .ref a), (2, .ref (q2 0)), (1, .ref (q 0)), (0, .ref b)] := hl
  have hf : cells + 0 ≤ room_1.cells ∧ slots + 0 ≤ room_1.slots := ⟨by omega, by omega⟩
  refine lv_aload_n hx hb dL_law_337 rfl (lv_at hl 3 rfl) ?_
  refine xc_rv (w0 := wX q cA S) (As := []) (rest := []) ⟨hx, hb, hml, hown, hts⟩ (kX0_clauses l D q cA S okS) (cwV 0 hts (gd_V bw_57 bw_58 bw_59 bw_1 bw_60) rfl rfl rfl (by decide +kernel) ⟨Nat.le_of_ble_eq_true rfl, Nat.le_of_ble_eq_true rfl⟩) (va_recv (ci := 0) (q0 := 0) (tys := tyL cA cL cB) hK hP rfl rfl) (pt_PL (pt_PL hP)) (hK.sub [0] rfl) rfl hl.1 rfl (Nat.le_of_ble_eq_true rfl) dL_law_338 hf ?_
  refine lv_aload_n hx hb dL_law_341 rfl (lv_at hl 2 rfl) ?_
  refine ls_m (As := []) (rest := [.int _]) ⟨hx, hb, hml, hown, hts⟩ (kX1_clauses l D q2 cB T okT  _) (cwV 0 hts (gd_V bw_366 bw_367 bw_368 bw_2 bw_369) rfl rfl rfl (by decide +kernel) ⟨Nat.le_of_ble_eq_true rfl, Nat.le_of_ble_eq_true rfl⟩) hK hP hD hS rfl hl.1 rfl (Nat.le_of_ble_eq_true rfl) dL_law_342 hf (fun r6 u H locs hu hP hD hS => ?_)
  obtain ⟨u6, u1⟩ := hu
  have tI : LI S u := by rw [u1]; exact hI.th 0
  have te : nI (xn S) = r6 := by rw [u6, hI.n]
  refine lv_icmp_eq (tgt := 674) hx hb dL_law_345 (by decide) (fun _ => ?_) (fun z9 => absurd te z9)
  refine xw_wide (k := cells + 1) (n9 := slots + 6) (by omega) (by omega) ?_
  exact kk S u f H locs ls tI hl hP hD hS

set_option maxHeartbeats 4000000 in
set_option maxRecDepth 100000 in
theorem lo_entries (E : lE p l s m c b L xs D cA cL cB) (hI : LI S T) (hP : va_P D vwCl (wL q cA S a cL f q2 cB T) H) (hD : va_D (aL s) (wL q cA S a cL f q2 cB T)) (hS : va_S (aL s) s.heap H locs) (hc : cells + 1 ≤ room_1.cells) (hs6 : slots + 6 ≤ room_1.slots) (kk : lK p l e s m below meth c Q b D q q2 cA cL cB a i cells slots) (hl : lv_has ls 7 (lvL b a i q q2)) : W p l e room_1 s m #[Value.ref b] below meth c H locs cells slots Q (F0 m 462 ls []) := by
  obtain ⟨hx, hb, hml, hown, hts, hXs, hbl, hK, hX, hl9, hL⟩ := E
  have hbA : ¬ aL s b := Nat.not_le.mpr hbl
  have okS := hI.2.1
  have okT := hI.2.2.1
  have hl : lv_has ls 7 [(4, .int (nI (3 * i))), (3, .ref a), (2, .ref (q2 0)), (1, .ref (q 0)), (0, .ref b)] := hl
  have hf : cells + 0 ≤ room_1.cells ∧ slots + 0 ≤ room_1.slots := ⟨by omega, by omega⟩
  refine lv_aload_n hx hb dL_law_462 rfl (lv_at hl 3 rfl) ?_
  refine xc_rv (w0 := wX q cA S) (As := []) (rest := []) ⟨hx, hb, hml, hown, hts⟩ (kX0_entries l D q cA S okS) (cwV 0 hts (gd_V bw_61 bw_62 bw_63 bw_1 bw_64) rfl rfl rfl (by decide +kernel) ⟨Nat.le_of_ble_eq_true rfl, Nat.le_of_ble_eq_true rfl⟩) (va_recv (ci := 0) (q0 := 0) (tys := tyL cA cL cB) hK hP rfl rfl) (pt_PL (pt_PL hP)) (hK.sub [0] rfl) rfl hl.1 rfl (Nat.le_of_ble_eq_true rfl) dL_law_463 hf ?_
  refine lv_aload_n hx hb dL_law_466 rfl (lv_at hl 2 rfl) ?_
  refine ls_m (As := []) (rest := [.int _]) ⟨hx, hb, hml, hown, hts⟩ (kX1_entries l D q2 cB T okT  _) (cwV 0 hts (gd_V bw_378 bw_379 bw_380 bw_2 bw_381) rfl rfl rfl (by decide +kernel) ⟨Nat.le_of_ble_eq_true rfl, Nat.le_of_ble_eq_true rfl⟩) hK hP hD hS rfl hl.1 rfl (Nat.le_of_ble_eq_true rfl) dL_law_467 hf (fun r6 u H locs hu hP hD hS => ?_)
  obtain ⟨u6, u1⟩ := hu
  have tI : LI S u := by rw [u1]; exact hI.th 0
  have te : nI (xh S) = r6 := by rw [u6, hI.h]
  refine lv_icmp_eq (tgt := 674) hx hb dL_law_470 (by decide) (fun _ => ?_) (fun z9 => absurd te z9)
  refine xw_wide (k := cells + 1) (n9 := slots + 6) (by omega) (by omega) ?_
  exact kk S u f H locs ls tI hl hP hD hS

set_option maxHeartbeats 4000000 in
set_option maxRecDepth 100000 in
theorem lo_failing (E : lE p l s m c b L xs D cA cL cB) (hI : LI S T) (hP : va_P D vwCl (wL q cA S a cL f q2 cB T) H) (hD : va_D (aL s) (wL q cA S a cL f q2 cB T)) (hS : va_S (aL s) s.heap H locs) (hc : cells + 1 ≤ room_1.cells) (hs6 : slots + 6 ≤ room_1.slots) (kk : lK p l e s m below meth c Q b D q q2 cA cL cB a i cells slots) (hl : lv_has ls 7 (lvL b a i q q2)) : W p l e room_1 s m #[Value.ref b] below meth c H locs cells slots Q (F0 m 622 ls []) := by
  obtain ⟨hx, hb, hml, hown, hts, hXs, hbl, hK, hX, hl9, hL⟩ := E
  have hbA : ¬ aL s b := Nat.not_le.mpr hbl
  have okS := hI.2.1
  have okT := hI.2.2.1
  have hl : lv_has ls 7 [(4, .int (nI (3 * i))), (3, .ref a), (2, .ref (q2 0)), (1, .ref (q 0)), (0, .ref b)] := hl
  have hf : cells + 0 ≤ room_1.cells ∧ slots + 0 ≤ room_1.slots := ⟨by omega, by omega⟩
  refine lv_aload_n hx hb dL_law_622 rfl (lv_at hl 3 rfl) ?_
  refine xc_rv (w0 := wX q cA S) (As := []) (rest := []) ⟨hx, hb, hml, hown, hts⟩ (kX0_failing l D q cA S okS) (cwV 0 hts (gd_V bw_65 bw_66 bw_67 bw_1 bw_68) rfl rfl rfl (by decide +kernel) ⟨Nat.le_of_ble_eq_true rfl, Nat.le_of_ble_eq_true rfl⟩) (va_recv (ci := 0) (q0 := 0) (tys := tyL cA cL cB) hK hP rfl rfl) (pt_PL (pt_PL hP)) (hK.sub [0] rfl) rfl hl.1 rfl (Nat.le_of_ble_eq_true rfl) dL_law_623 hf ?_
  refine lv_aload_n hx hb dL_law_626 rfl (lv_at hl 2 rfl) ?_
  refine ls_m (As := []) (rest := [.int _]) ⟨hx, hb, hml, hown, hts⟩ (kX1_failing l D q2 cB T okT  _) (cwV 0 hts (gd_V bw_393 bw_394 bw_395 bw_2 bw_396) rfl rfl rfl (by decide +kernel) ⟨Nat.le_of_ble_eq_true rfl, Nat.le_of_ble_eq_true rfl⟩) hK hP hD hS rfl hl.1 rfl (Nat.le_of_ble_eq_true rfl) dL_law_627 hf (fun r6 u H locs hu hP hD hS => ?_)
  obtain ⟨u6, u1⟩ := hu
  have tI : LI S u := by rw [u1]; exact hI.th 0
  have te : nI (q_ct (fun k => (xse S k &&& k_tl (xt S)) == 0) (xn S) 0 0) = r6 := by rw [u6, hI.fail]
  refine lv_icmp_eq (tgt := 674) hx hb dL_law_630 (by decide) (fun _ => ?_) (fun z9 => absurd te z9)
  refine xw_wide (k := cells + 1) (n9 := slots + 6) (by omega) (by omega) ?_
  exact kk S u f H locs ls tI hl hP hD hS

set_option maxHeartbeats 4000000 in
set_option maxRecDepth 100000 in
theorem lo_assignment (E : lE p l s m c b L xs D cA cL cB) (hI : LI S T) (hP : va_P D vwCl (wL q cA S a cL f q2 cB T) H) (hD : va_D (aL s) (wL q cA S a cL f q2 cB T)) (hS : va_S (aL s) s.heap H locs) (hc : cells + 1 ≤ room_1.cells) (hs6 : slots + 6 ≤ room_1.slots) (kk : lK p l e s m below meth c Q b D q q2 cA cL cB a i cells slots) (hl : lv_has ls 7 (lvL b a i q q2)) : W p l e room_1 s m #[Value.ref b] below meth c H locs cells slots Q (F0 m 648 ls []) := by
  obtain ⟨hx, hb, hml, hown, hts, hXs, hbl, hK, hX, hl9, hL⟩ := E
  have hbA : ¬ aL s b := Nat.not_le.mpr hbl
  have okS := hI.2.1
  have okT := hI.2.2.1
  have hl : lv_has ls 7 [(4, .int (nI (3 * i))), (3, .ref a), (2, .ref (q2 0)), (1, .ref (q 0)), (0, .ref b)] := hl
  have hf : cells + 0 ≤ room_1.cells ∧ slots + 0 ≤ room_1.slots := ⟨by omega, by omega⟩
  refine lv_aload_n hx hb dL_law_648 rfl (lv_at hl 3 rfl) ?_
  refine xc_rv (w0 := wX q cA S) (As := []) (rest := []) ⟨hx, hb, hml, hown, hts⟩ (kX0_assignment l D q cA S okS) (cwV 0 hts (gd_V bw_79 bw_80 bw_81 bw_1 bw_82) rfl rfl rfl (by decide +kernel) ⟨Nat.le_of_ble_eq_true rfl, Nat.le_of_ble_eq_true rfl⟩) (va_recv (ci := 0) (q0 := 0) (tys := tyL cA cL cB) hK hP rfl rfl) (pt_PL (pt_PL hP)) (hK.sub [0] rfl) rfl hl.1 rfl (Nat.le_of_ble_eq_true rfl) dL_law_649 hf ?_
  refine lv_aload_n hx hb dL_law_652 rfl (lv_at hl 2 rfl) ?_
  refine ls_m (As := []) (rest := [.int _]) ⟨hx, hb, hml, hown, hts⟩ (kX1_assignment l D q2 cB T okT  _) (cwV 0 hts (gd_V bw_401 bw_402 bw_403 bw_2 bw_404) rfl rfl rfl (by decide +kernel) ⟨Nat.le_of_ble_eq_true rfl, Nat.le_of_ble_eq_true rfl⟩) hK hP hD hS rfl hl.1 rfl (Nat.le_of_ble_eq_true rfl) dL_law_653 hf (fun r6 u H locs hu hP hD hS => ?_)
  obtain ⟨u6, u1⟩ := hu
  have tI : LI S u := by rw [u1]; exact hI.th 0
  have te : xt S = r6 := by rw [u6, hI.1.2.1]
  refine lv_icmp_eq (tgt := 674) hx hb dL_law_656 (by decide) (fun _ => ?_) (fun z9 => absurd te z9)
  refine xw_wide (k := cells + 1) (n9 := slots + 6) (by omega) (by omega) ?_
  exact kk S u f H locs ls tI hl hP hD hS

set_option maxHeartbeats 4000000 in
set_option maxRecDepth 100000 in
theorem lo_unmet (E : lE p l s m c b L xs D cA cL cB) (hI : LI S T) (hP : va_P D vwCl (wL q cA S a cL f q2 cB T) H) (hD : va_D (aL s) (wL q cA S a cL f q2 cB T)) (hS : va_S (aL s) s.heap H locs) (hc : cells + 1 ≤ room_1.cells) (hs6 : slots + 6 ≤ room_1.slots) (kk : lK p l e s m below meth c Q b D q q2 cA cL cB a i cells slots) (hl : lv_has ls 7 (lvL b a i q q2)) : W p l e room_1 s m #[Value.ref b] below meth c H locs cells slots Q (F0 m 661 ls []) := by
  obtain ⟨hx, hb, hml, hown, hts, hXs, hbl, hK, hX, hl9, hL⟩ := E
  have hbA : ¬ aL s b := Nat.not_le.mpr hbl
  have okS := hI.2.1
  have okT := hI.2.2.1
  have hl : lv_has ls 7 [(4, .int (nI (3 * i))), (3, .ref a), (2, .ref (q2 0)), (1, .ref (q 0)), (0, .ref b)] := hl
  have hf : cells + 0 ≤ room_1.cells ∧ slots + 0 ≤ room_1.slots := ⟨by omega, by omega⟩
  refine lv_aload_n hx hb dL_law_661 rfl (lv_at hl 3 rfl) ?_
  refine xc_rv (w0 := wX q cA S) (As := []) (rest := []) ⟨hx, hb, hml, hown, hts⟩ (kX0_unmet l D q cA S okS) (cwV 0 hts (gd_V bw_83 bw_84 bw_85 bw_1 bw_86) rfl rfl rfl (by decide +kernel) ⟨Nat.le_of_ble_eq_true rfl, Nat.le_of_ble_eq_true rfl⟩) (va_recv (ci := 0) (q0 := 0) (tys := tyL cA cL cB) hK hP rfl rfl) (pt_PL (pt_PL hP)) (hK.sub [0] rfl) rfl hl.1 rfl (Nat.le_of_ble_eq_true rfl) dL_law_662 hf ?_
  refine lv_aload_n hx hb dL_law_665 rfl (lv_at hl 2 rfl) ?_
  refine ls_m (As := []) (rest := [.int _]) ⟨hx, hb, hml, hown, hts⟩ (kX1_unmet l D q2 cB T okT  _) (cwV 0 hts (gd_V bw_405 bw_406 bw_407 bw_2 bw_408) rfl rfl rfl (by decide +kernel) ⟨Nat.le_of_ble_eq_true rfl, Nat.le_of_ble_eq_true rfl⟩) hK hP hD hS rfl hl.1 rfl (Nat.le_of_ble_eq_true rfl) dL_law_666 hf (fun r6 u H locs hu hP hD hS => ?_)
  obtain ⟨u6, u1⟩ := hu
  have tI : LI S u := by rw [u1]; exact hI.th 0
  have te : nI (q_ct (fun k => (xgi S k &&& k_tl (xt S)) == 0) (xg S) 0 0) = r6 := by rw [u6, hI.unm]
  refine lv_icmp_eq (tgt := 674) hx hb dL_law_669 (by decide) (fun _ => ?_) (fun z9 => absurd te z9)
  refine xw_wide (k := cells + 1) (n9 := slots + 6) (by omega) (by omega) ?_
  exact kk S u f H locs ls tI hl hP hD hS

set_option maxHeartbeats 4000000 in
set_option maxRecDepth 100000 in
theorem lo_extend (E : lE p l s m c b L xs D cA cL cB) (hI : LI S T) (hP : va_P D vwCl (wL q cA S a cL f q2 cB T) H) (hD : va_D (aL s) (wL q cA S a cL f q2 cB T)) (hS : va_S (aL s) s.heap H locs) (hc : cells + 1 ≤ room_1.cells) (hs6 : slots + 6 ≤ room_1.slots) (kk : lK p l e s m below meth c Q b D q q2 cA cL cB a i cells slots) (hl : lv_has ls 7 (lvL b a i q q2)) : W p l e room_1 s m #[Value.ref b] below meth c H locs cells slots Q (F0 m 635 ls []) := by
  obtain ⟨hx, hb, hml, hown, hts, hXs, hbl, hK, hX, hl9, hL⟩ := E
  have hbA : ¬ aL s b := Nat.not_le.mpr hbl
  have okS := hI.2.1
  have okT := hI.2.2.1
  have hl : lv_has ls 7 [(4, .int (nI (3 * i))), (3, .ref a), (2, .ref (q2 0)), (1, .ref (q 0)), (0, .ref b)] := hl
  have hf : cells + 0 ≤ room_1.cells ∧ slots + 0 ≤ room_1.slots := ⟨by omega, by omega⟩
  refine lv_aload_n hx hb dL_law_635 rfl (lv_at hl 3 rfl) ?_
  refine ls_x (As := []) (rest := []) ⟨hx, hb, hml, hown, hts⟩ (kX0_extend l D q cA S okS _) (cwV 0 hts (gd_V bw_72 bw_73 bw_74 bw_1 bw_75) rfl rfl rfl (by decide +kernel) ⟨Nat.le_of_ble_eq_true rfl, Nat.le_of_ble_eq_true rfl⟩) hK hP hD hS rfl hl.1 rfl (Nat.le_of_ble_eq_true rfl) dL_law_636 hf (fun r0 u0 H locs hu0 hP hD hS => ?_)
  refine lv_aload_n hx hb dL_law_639 rfl (lv_at hl 2 rfl) ?_
  refine ls_m (As := []) (rest := [.int r0]) ⟨hx, hb, hml, hown, hts⟩ (kX1_extend l D q2 cB T okT hI.2.2.2.2.2.2.1 (by rw [← hI.1.2.1]; exact hI.2.2.2.2.2.1) _) (cwV 0 hts (gd_V bw_397 bw_398 bw_399 bw_2 bw_400) rfl rfl rfl (by decide +kernel) ⟨Nat.le_of_ble_eq_true rfl, Nat.le_of_ble_eq_true rfl⟩) hK hP hD hS rfl hl.1 rfl (Nat.le_of_ble_eq_true rfl) dL_law_640 hf (fun r6 u H locs hu hP hD hS => ?_)
  obtain ⟨u6, u1⟩ := hu
  obtain ⟨x6, x1⟩ := hu0
  have tI : LI u0 u := by rw [x1, u1]; exact (hI.ext 0).2
  have te : r0 = r6 := by rw [x6, u6, (hI.ext 0).1]
  refine lv_icmp_eq (tgt := 674) hx hb dL_law_643 (by decide) (fun _ => ?_) (fun z9 => absurd te z9)
  refine xw_wide (k := cells + 1) (n9 := slots + 6) (by omega) (by omega) ?_
  exact kk u0 u f H locs ls tI hl hP hD hS

end LO
