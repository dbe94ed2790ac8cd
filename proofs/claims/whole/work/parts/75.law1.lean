/-! The calls of the law's loop. -/
theorem lcmp_self (x : Int64) : lg_cmp x x = 0 := by simp [lg_cmp]
theorem xi_inc2 {p : Program} {l : Launch} {e : Env} {R : Room} {s : State} {m : MethodId} {args : Array Value} {below : List Frame} {meth : Method} {c : Code} {H : Heap} {locs : List Loc} {cells slots : Nat} {Q : State → Prop} {cc : ByteArray} {pc : Nat} {ls : Array Slot} {rest : List Value} (hexec : p.tables.exec = Jvm.exec) (hb : c.code = cc) {k : Nat} (hdg : decode cc pc = .ok (.iadd, 1)) (kk : W p l e R s m args below meth c H locs cells slots Q (F0 m (pc + 1) ls (.int (nI (k + 2)) :: rest))) : W p l e R s m args below meth c H locs cells slots Q (F0 m pc ls (.int 2 :: .int (nI k) :: rest)) := by
  refine lv_iadd hexec hb hdg ?_
  rw [show nI k + 2 = nI (k + 2) from nI_add k 2]
  exact kk
section LO
variable {p : Program} {l : Launch} {e : Env} {s : State} {m : MethodId} {below : List Frame} {meth : Method} {c : Code} {H : Heap} {locs : List Loc} {cells slots : Nat} {Q : State → Prop}
variable {ls : Array Slot} {D : va_G} {b L a i : Nat} {xs : Nat → Int32} {q q2 : Nat → Nat} {cA cL cB : ClassId} {S : XS} {T : MS} {f : Nat → Int64}

set_option maxHeartbeats 4000000 in
set_option maxRecDepth 100000 in
theorem lt_literal (E : lE p l s m c b L xs D cA cL cB) (hI : LI S T) (hP : va_P D vwCl (wL q cA S a cL f q2 cB T) H) (hD : va_D (aL s) (wL q cA S a cL f q2 cB T)) (hS : va_S (aL s) s.heap H locs) (hc : cells + 1 ≤ room_1.cells) (hs6 : slots + 6 ≤ room_1.slots) (kk : lK p l e s m below meth c Q b D q q2 cA cL cB a i cells slots) {r5 r6 : Int32} (hl : lv_has ls 7 [(6, .int r6), (5, .int r5), (4, .int (nI (3 * i))), (3, .ref a), (2, .ref (q2 0)), (1, .ref (q 0)), (0, .ref b)]) (h5 : yth T = r5) (h6 : r5 = 0 → f 0 = Int32.toInt64 r6) : W p l e room_1 s m #[Value.ref b] below meth c H locs (cells + 1) (slots + 6) Q (F0 m 137 ls []) := by
  obtain ⟨hx, hb, hml, hown, hts, hXs, hbl, hK, hX, hl9, hL⟩ := E
  have hbA : ¬ aL s b := Nat.not_le.mpr hbl
  have okS := hI.2.1
  have okT := hI.2.2.1
  refine lv_aload_n hx hb dL_law_137 rfl (lv_at hl 4 rfl) ?_
  refine xc_rv (w0 := wM q2 cB T) (As := []) (rest := []) ⟨hx, hb, hml, hown, hts⟩ (kX1_thrown l D q2 cB T okT) (cwV 0 hts (gd_V bw_282 bw_283 bw_284 bw_2 bw_285) rfl rfl rfl (by decide +kernel) ⟨Nat.le_of_ble_eq_true rfl, Nat.le_of_ble_eq_true rfl⟩) (va_recv (ci := 1) (q0 := 0) (tys := tyL cA cL cB) hK (pt_PR hP) rfl rfl) (pt_PR hP) (hK.sub [2] rfl) rfl hl.1 rfl (Nat.le_of_ble_eq_true rfl) dL_law_138 ⟨hc, hs6⟩ ?_
  refine lv_iload hx hb dL_law_141 (lv_at hl 1 rfl) ?_
  refine lv_icmp_eq (tgt := 148) hx hb dL_law_143 (by decide) (fun _ => ?_) (fun z9 => absurd h5 z9)
  refine lv_iload hx hb dL_law_148 (lv_at hl 1 rfl) ?_
  have fin : W p l e room_1 s m #[Value.ref b] below meth c H locs (cells + 1) (slots + 6) Q (F0 m 165 ls []) := by
    refine lv_goto (tgt := 674) hx hb dL_law_165 (by decide) ?_
    exact kk S T f H locs ls hI (lv_sub hl [2, 3, 4, 5, 6] rfl) hP hD hS
  refine lv_if_ne (tgt := 165) hx hb dL_law_150 (by decide) (fun _ => fin) (fun z9 => ?_)
  have z5 : r5 = 0 := by first | exact z9 | exact Classical.byContradiction z9
  refine lv_aload_n hx hb dL_law_153 rfl (lv_at hl 3 rfl) ?_
  refine lv_iconst (v := 0) hx hb dL_law_154 (by decide) ?_
  refine ls_ll hx hb hK hP dL_law_155 ?_
  refine lv_iload hx hb dL_law_156 (lv_at hl 0 rfl) ?_
  refine lv_i2l (v := Int32.toInt64 r6) hx hb dL_law_158 rfl ?_
  refine W.lcmp hx hb dL_law_159 ?_
  refine lv_if_eq (tgt := 165) hx hb dL_law_160 (by decide) (fun _ => fin) (fun z8 => absurd (by rw [h6 z5]; exact lcmp_self _) z8)

set_option maxHeartbeats 4000000 in
set_option maxRecDepth 100000 in
theorem lo_literal (E : lE p l s m c b L xs D cA cL cB) (hI : LI S T) (hP : va_P D vwCl (wL q cA S a cL f q2 cB T) H) (hD : va_D (aL s) (wL q cA S a cL f q2 cB T)) (hS : va_S (aL s) s.heap H locs) (hc : cells + 1 ≤ room_1.cells) (hs6 : slots + 6 ≤ room_1.slots) (kk : lK p l e s m below meth c Q b D q q2 cA cL cB a i cells slots) (hl : lv_has ls 7 (lvL b a i q q2)) (hi : 3 * i + 3 ≤ L) : W p l e room_1 s m #[Value.ref b] below meth c H locs cells slots Q (F0 m 112 ls []) := by
  obtain ⟨hx, hb, hml, hown, hts, hXs, hbl, hK, hX, hl9, hL⟩ := E
  have hbA : ¬ aL s b := Nat.not_le.mpr hbl
  have okS := hI.2.1
  have okT := hI.2.2.1
  have hl : lv_has ls 7 [(4, .int (nI (3 * i))), (3, .ref a), (2, .ref (q2 0)), (1, .ref (q 0)), (0, .ref b)] := hl
  obtain ⟨x, hxx⟩ : ∃ x, x = xs (3 * i + 1) := ⟨_, rfl⟩
  cases h9 : k_isL x
  · have h9 : k_isL x = false := h9
    refine lv_aload_n hx hb dL_law_112 rfl (lv_at hl 3 rfl) ?_
    refine lv_aload_n hx hb dL_law_113 rfl (lv_at hl 4 rfl) ?_
    refine lv_iload hx hb dL_law_114 (lv_at hl 0 rfl) ?_
    refine lv_iconst (v := 1) hx hb dL_law_116 (by decide) ?_
    refine xi_inc hx hb dL_law_117 ?_
    refine ls_ld hx hb hXs hbl hbA hS (3 * i + 1) (by omega) hL dL_law_118 ?_
    rw [← hxx]
    refine lv_aload_n hx hb dL_law_119 rfl (lv_at hl 1 rfl) ?_
    refine ls_h (As := [.ref (q 0), .int x, .ref a]) (rest := []) ⟨hx, hb, hml, hown, hts⟩ (hL_literal_no l D q cA cL a f S okS hl9 x h9 _) (vx_cwSW 3 hts (gd_SW bw_87 bw_88 bw_0 bw_519) rfl rfl rfl (by decide +kernel) ⟨Nat.le_of_ble_eq_true rfl, Nat.le_of_ble_eq_true rfl⟩) hX hK hP hD hS rfl hl.1 rfl (Nat.le_of_ble_eq_true rfl) dL_law_120 ⟨hc, hs6⟩ (fun r5 z H locs hz hP hD hS => ?_)
    refine lv_istore (lv' := [(5, .int r5), (4, .int (nI (3 * i))), (3, .ref a), (2, .ref (q2 0)), (1, .ref (q 0)), (0, .ref b)]) hx hb dL_law_123 hl (by decide) rfl (fun ls hl => ?_)
    refine lv_aload_n hx hb dL_law_125 rfl (lv_at hl 3 rfl) ?_
    refine lv_aload_n hx hb dL_law_126 rfl (lv_at hl 5 rfl) ?_
    refine lv_iload hx hb dL_law_127 (lv_at hl 1 rfl) ?_
    refine lv_iconst (v := 1) hx hb dL_law_129 (by decide) ?_
    refine xi_inc hx hb dL_law_130 ?_
    refine ls_ld hx hb hXs hbl hbA hS (3 * i + 1) (by omega) hL dL_law_131 ?_
    rw [← hxx]
    refine ls_m (As := [.int x]) (rest := []) ⟨hx, hb, hml, hown, hts⟩ (kX1_literal_no l D q2 cB T okT x h9 _) (cwV 1 hts (gd_V bw_286 bw_287 bw_288 bw_2 bw_289) rfl rfl rfl (by decide +kernel) ⟨Nat.le_of_ble_eq_true rfl, Nat.le_of_ble_eq_true rfl⟩) hK hP hD hS rfl hl.1 rfl (Nat.le_of_ble_eq_true rfl) dL_law_132 ⟨hc, hs6⟩ (fun r6 u H locs hu hP hD hS => ?_)
    refine lv_istore (lv' := [(6, .int r6), (5, .int r5), (4, .int (nI (3 * i))), (3, .ref a), (2, .ref (q2 0)), (1, .ref (q 0)), (0, .ref b)]) hx hb dL_law_135 hl (by decide) rfl (fun ls hl => ?_)
    obtain ⟨z5, z1⟩ := hz
    obtain ⟨-, u1⟩ := hu
    have tI : LI z.1 u := by rw [z1, u1]; exact hI.th 1
    have t5 : yth u = r5 := by rw [u1, z5]
    have t6 : r5 = 0 → z.2 0 = Int32.toInt64 r6 := fun y => absurd (z5.symm.trans y) (by decide)
    exact lt_literal (S := z.1) (T := u) (f := z.2) ⟨hx, hb, hml, hown, hts, hXs, hbl, hK, hX, hl9, hL⟩ tI hP hD hS hc hs6 kk hl t5 t6
  · have h9 : k_isL x = true := h9
    refine lv_aload_n hx hb dL_law_112 rfl (lv_at hl 3 rfl) ?_
    refine lv_aload_n hx hb dL_law_113 rfl (lv_at hl 4 rfl) ?_
    refine lv_iload hx hb dL_law_114 (lv_at hl 0 rfl) ?_
    refine lv_iconst (v := 1) hx hb dL_law_116 (by decide) ?_
    refine xi_inc hx hb dL_law_117 ?_
    refine ls_ld hx hb hXs hbl hbA hS (3 * i + 1) (by omega) hL dL_law_118 ?_
    rw [← hxx]
    refine lv_aload_n hx hb dL_law_119 rfl (lv_at hl 1 rfl) ?_
    refine ls_h (As := [.ref (q 0), .int x, .ref a]) (rest := []) ⟨hx, hb, hml, hown, hts⟩ (hL_literal_ok l D q cA cL a f S okS hl9 x h9 _) (vx_cwSW 3 hts (gd_SW bw_87 bw_88 bw_0 bw_519) rfl rfl rfl (by decide +kernel) ⟨Nat.le_of_ble_eq_true rfl, Nat.le_of_ble_eq_true rfl⟩) hX hK hP hD hS rfl hl.1 rfl (Nat.le_of_ble_eq_true rfl) dL_law_120 ⟨hc, hs6⟩ (fun r5 z H locs hz hP hD hS => ?_)
    refine lv_istore (lv' := [(5, .int r5), (4, .int (nI (3 * i))), (3, .ref a), (2, .ref (q2 0)), (1, .ref (q 0)), (0, .ref b)]) hx hb dL_law_123 hl (by decide) rfl (fun ls hl => ?_)
    refine lv_aload_n hx hb dL_law_125 rfl (lv_at hl 3 rfl) ?_
    refine lv_aload_n hx hb dL_law_126 rfl (lv_at hl 5 rfl) ?_
    refine lv_iload hx hb dL_law_127 (lv_at hl 1 rfl) ?_
    refine lv_iconst (v := 1) hx hb dL_law_129 (by decide) ?_
    refine xi_inc hx hb dL_law_130 ?_
    refine ls_ld hx hb hXs hbl hbA hS (3 * i + 1) (by omega) hL dL_law_131 ?_
    rw [← hxx]
    refine ls_m (As := [.int x]) (rest := []) ⟨hx, hb, hml, hown, hts⟩ (kX1_literal_ok l D q2 cB T okT x h9 _) (cwV 1 hts (gd_V bw_286 bw_287 bw_288 bw_2 bw_289) rfl rfl rfl (by decide +kernel) ⟨Nat.le_of_ble_eq_true rfl, Nat.le_of_ble_eq_true rfl⟩) hK hP hD hS rfl hl.1 rfl (Nat.le_of_ble_eq_true rfl) dL_law_132 ⟨hc, hs6⟩ (fun r6 u H locs hu hP hD hS => ?_)
    refine lv_istore (lv' := [(6, .int r6), (5, .int r5), (4, .int (nI (3 * i))), (3, .ref a), (2, .ref (q2 0)), (1, .ref (q 0)), (0, .ref b)]) hx hb dL_law_135 hl (by decide) rfl (fun ls hl => ?_)
    obtain ⟨z5, r1, z2, z3, z1⟩ := hz
    obtain ⟨u6, u1⟩ := hu
    have tt := hI.lit h9 0
    have tI : LI z.1 u := by rw [z1, u1]; exact tt.2
    have t5 : yth u = r5 := by rw [u1, z5]
    have t6 : r5 = 0 → z.2 0 = Int32.toInt64 r6 := fun _ => by rw [z2, z3, tt.1, u6]
    exact lt_literal (S := z.1) (T := u) (f := z.2) ⟨hx, hb, hml, hown, hts, hXs, hbl, hK, hX, hl9, hL⟩ tI hP hD hS hc hs6 kk hl t5 t6

end LO
