/-! close in the law's loop. -/
theorem cl_cases {S : XS} {T : MS} (hI : LI S T) : (q_can (vXL S) (xd S) = false ∧ (m_taut (yd T) = true ∨ ¬ q_find (vML T) (yd T) = none)) ∨
    ((q_can (vXL S) (xd S) = true ∧ k_taut (xd S) = false) ∧ (m_taut (yd T) = false ∧ q_find (vML T) (yd T) = none) ∧ xn S < 40 ∧ yn T < 40) ∨ ((q_can (vXL S) (xd S) = true ∧ k_taut (xd S) = false) ∧ (m_taut (yd T) = false ∧ q_find (vML T) (yd T) = none) ∧ (¬ xn S < 40) ∧ yn T = 40) := by
  have en := hI.n
  have n40 := hI.n40
  have d1 := hI.2.2.2.2.1
  have e1 := hI.1.1
  rw [← hI.1.2.2.2.1, ← e1, m_taut_eq d1]
  unfold q_can
  cases h1 : k_taut (xd S)
  · cases h2 : q_find (vXL S) (xd S)
    · by_cases z : xn S < 40
      · exact Or.inr (Or.inl ⟨⟨rfl, rfl⟩, ⟨rfl, rfl⟩, z, by omega⟩)
      · exact Or.inr (Or.inr ⟨⟨rfl, rfl⟩, ⟨rfl, rfl⟩, z, by omega⟩)
    · exact Or.inl ⟨rfl, Or.inr (Option.some_ne_none _)⟩
  · exact Or.inl ⟨rfl, Or.inl rfl⟩
section LC
variable {p : Program} {l : Launch} {e : Env} {s : State} {m : MethodId} {below : List Frame} {meth : Method} {c : Code} {H : Heap} {locs : List Loc} {cells slots : Nat} {Q : State → Prop}
variable {ls : Array Slot} {D : va_G} {b L a i : Nat} {xs : Nat → Int32} {q q2 : Nat → Nat} {cA cL cB : ClassId} {S : XS} {T : MS} {f : Nat → Int64}

set_option maxHeartbeats 4000000 in
set_option maxRecDepth 100000 in
theorem lt_close (E : lE p l s m c b L xs D cA cL cB) (hI : LI S T) (hP : va_P D vwCl (wL q cA S a cL f q2 cB T) H) (hD : va_D (aL s) (wL q cA S a cL f q2 cB T)) (hS : va_S (aL s) s.heap H locs) (hc : cells + 1 ≤ room_1.cells) (hs6 : slots + 6 ≤ room_1.slots) (kk : lK p l e s m below meth c Q b D q q2 cA cL cB a i cells slots) {r5 r6 : Int32} (hl : lv_has ls 7 [(6, .int r6), (5, .int r5), (4, .int (nI (3 * i))), (3, .ref a), (2, .ref (q2 0)), (1, .ref (q 0)), (0, .ref b)]) (h5 : yth T = r5) (h6 : r5 = 0 → f 0 = Int32.toInt64 r6) : W p l e room_1 s m #[Value.ref b] below meth c H locs (cells + 1) (slots + 6) Q (F0 m 181 ls []) := by
  obtain ⟨hx, hb, hml, hown, hts, hXs, hbl, hK, hX, hl9, hL⟩ := E
  have hbA : ¬ aL s b := Nat.not_le.mpr hbl
  have okS := hI.2.1
  have okT := hI.2.2.1
  refine lv_aload_n hx hb dL_law_181 rfl (lv_at hl 4 rfl) ?_
  refine xc_rv (w0 := wM q2 cB T) (As := []) (rest := []) ⟨hx, hb, hml, hown, hts⟩ (kX1_thrown l D q2 cB T okT) (cwV 0 hts (gd_V bw_282 bw_283 bw_284 bw_2 bw_285) rfl rfl rfl (by decide +kernel) ⟨Nat.le_of_ble_eq_true rfl, Nat.le_of_ble_eq_true rfl⟩) (va_recv (ci := 1) (q0 := 0) (tys := tyL cA cL cB) hK (pt_PR hP) rfl rfl) (pt_PR hP) (hK.sub [2] rfl) rfl hl.1 rfl (Nat.le_of_ble_eq_true rfl) dL_law_182 ⟨hc, hs6⟩ ?_
  refine lv_iload hx hb dL_law_185 (lv_at hl 1 rfl) ?_
  refine lv_icmp_eq (tgt := 192) hx hb dL_law_187 (by decide) (fun _ => ?_) (fun z9 => absurd h5 z9)
  refine lv_iload hx hb dL_law_192 (lv_at hl 1 rfl) ?_
  have fin : W p l e room_1 s m #[Value.ref b] below meth c H locs (cells + 1) (slots + 6) Q (F0 m 209 ls []) := by
    refine lv_goto (tgt := 674) hx hb dL_law_209 (by decide) ?_
    exact kk S T f H locs ls hI (lv_sub hl [2, 3, 4, 5, 6] rfl) hP hD hS
  refine lv_if_ne (tgt := 209) hx hb dL_law_194 (by decide) (fun _ => fin) (fun z9 => ?_)
  have z5 : r5 = 0 := by first | exact z9 | exact Classical.byContradiction z9
  refine lv_aload_n hx hb dL_law_197 rfl (lv_at hl 3 rfl) ?_
  refine lv_iconst (v := 0) hx hb dL_law_198 (by decide) ?_
  refine ls_ll hx hb hK hP dL_law_199 ?_
  refine lv_iload hx hb dL_law_200 (lv_at hl 0 rfl) ?_
  refine lv_i2l (v := Int32.toInt64 r6) hx hb dL_law_202 rfl ?_
  refine W.lcmp hx hb dL_law_203 ?_
  refine lv_if_eq (tgt := 209) hx hb dL_law_204 (by decide) (fun _ => fin) (fun z8 => absurd (by rw [h6 z5]; exact lcmp_self _) z8)

set_option maxHeartbeats 4000000 in
set_option maxRecDepth 100000 in
theorem lo_close0 (E : lE p l s m c b L xs D cA cL cB) (hI : LI S T) (hP : va_P D vwCl (wL q cA S a cL f q2 cB T) H) (hD : va_D (aL s) (wL q cA S a cL f q2 cB T)) (hS : va_S (aL s) s.heap H locs) (hc : cells + 1 ≤ room_1.cells) (hs6 : slots + 6 ≤ room_1.slots) (kk : lK p l e s m below meth c Q b D q q2 cA cL cB a i cells slots) (hl : lv_has ls 7 (lvL b a i q q2)) : W p l e room_1 s m #[Value.ref b] below meth c H locs cells slots Q (F0 m 168 ls []) := by
  obtain ⟨hx, hb, hml, hown, hts, hXs, hbl, hK, hX, hl9, hL⟩ := E
  have hbA : ¬ aL s b := Nat.not_le.mpr hbl
  have okS := hI.2.1
  have okT := hI.2.2.1
  have hl : lv_has ls 7 [(4, .int (nI (3 * i))), (3, .ref a), (2, .ref (q2 0)), (1, .ref (q 0)), (0, .ref b)] := hl
  obtain ⟨x, hxx⟩ : ∃ x, x = xs (3 * i + 1) := ⟨_, rfl⟩
  rcases cl_cases hI with ⟨hcan, hm⟩ | ⟨hcan, hm, hn, hn2⟩ | ⟨hcan, hm, hn, hn2⟩
  · refine lv_aload_n hx hb dL_law_168 rfl (lv_at hl 3 rfl) ?_
    refine lv_aload_n hx hb dL_law_169 rfl (lv_at hl 1 rfl) ?_
    refine ls_h (As := [.ref (q 0), .ref a]) (rest := []) ⟨hx, hb, hml, hown, hts⟩ (hL_close_not l D q cA cL a f S okS hl9 hcan _) (vx_cwSW 2 hts (gd_SW bw_109 bw_110 bw_0 bw_520) rfl rfl rfl (by decide +kernel) ⟨Nat.le_of_ble_eq_true rfl, Nat.le_of_ble_eq_true rfl⟩) hX hK hP hD hS rfl hl.1 rfl (Nat.le_of_ble_eq_true rfl) dL_law_170 ⟨hc, hs6⟩ (fun r5 z H locs hz hP hD hS => ?_)
    refine lv_istore (lv' := [(5, .int r5), (4, .int (nI (3 * i))), (3, .ref a), (2, .ref (q2 0)), (1, .ref (q 0)), (0, .ref b)]) hx hb dL_law_173 hl (by decide) rfl (fun ls hl => ?_)
    refine lv_aload_n hx hb dL_law_175 rfl (lv_at hl 3 rfl) ?_
    refine ls_m (As := []) (rest := []) ⟨hx, hb, hml, hown, hts⟩ (kX1_close_not l D q2 cB T okT hm hI.n40 _) (cwV 0 hts (gd_V bw_299 bw_300 bw_301 bw_2 bw_302) rfl rfl rfl (by decide +kernel) ⟨Nat.le_of_ble_eq_true rfl, Nat.le_of_ble_eq_true rfl⟩) hK hP hD hS rfl hl.1 rfl (Nat.le_of_ble_eq_true rfl) dL_law_176 ⟨hc, hs6⟩ (fun r6 u H locs hu hP hD hS => ?_)
    refine lv_istore (lv' := [(6, .int r6), (5, .int r5), (4, .int (nI (3 * i))), (3, .ref a), (2, .ref (q2 0)), (1, .ref (q 0)), (0, .ref b)]) hx hb dL_law_179 hl (by decide) rfl (fun ls hl => ?_)
    obtain ⟨z5, r1, z2, z3, z1⟩ := hz
    obtain ⟨u6, u1⟩ := hu
    have tI : LI z.1 u := by rw [z1, u1]; exact hI.clo_not 0
    have t5 : yth u = r5 := by rw [u1, z5]
    have t6 : r5 = 0 → z.2 0 = Int32.toInt64 r6 := fun _ => by rw [z2, z3, u6]
    exact lt_close (S := z.1) (T := u) (f := z.2) ⟨hx, hb, hml, hown, hts, hXs, hbl, hK, hX, hl9, hL⟩ tI hP hD hS hc hs6 kk hl t5 t6
  · refine lv_aload_n hx hb dL_law_168 rfl (lv_at hl 3 rfl) ?_
    refine lv_aload_n hx hb dL_law_169 rfl (lv_at hl 1 rfl) ?_
    refine ls_h (As := [.ref (q 0), .ref a]) (rest := []) ⟨hx, hb, hml, hown, hts⟩ (hL_close_made l D q cA cL a f S okS hl9 hcan.1 hn _) (vx_cwSW 2 hts (gd_SW bw_109 bw_110 bw_0 bw_520) rfl rfl rfl (by decide +kernel) ⟨Nat.le_of_ble_eq_true rfl, Nat.le_of_ble_eq_true rfl⟩) hX hK hP hD hS rfl hl.1 rfl (Nat.le_of_ble_eq_true rfl) dL_law_170 ⟨hc, hs6⟩ (fun r5 z H locs hz hP hD hS => ?_)
    refine lv_istore (lv' := [(5, .int r5), (4, .int (nI (3 * i))), (3, .ref a), (2, .ref (q2 0)), (1, .ref (q 0)), (0, .ref b)]) hx hb dL_law_173 hl (by decide) rfl (fun ls hl => ?_)
    refine lv_aload_n hx hb dL_law_175 rfl (lv_at hl 3 rfl) ?_
    refine ls_m (As := []) (rest := []) ⟨hx, hb, hml, hown, hts⟩ (kX1_close_made l D q2 cB T okT hm.1 hm.2 hn2 _) (cwV 0 hts (gd_V bw_299 bw_300 bw_301 bw_2 bw_302) rfl rfl rfl (by decide +kernel) ⟨Nat.le_of_ble_eq_true rfl, Nat.le_of_ble_eq_true rfl⟩) hK hP hD hS rfl hl.1 rfl (Nat.le_of_ble_eq_true rfl) dL_law_176 ⟨hc, hs6⟩ (fun r6 u H locs hu hP hD hS => ?_)
    refine lv_istore (lv' := [(6, .int r6), (5, .int r5), (4, .int (nI (3 * i))), (3, .ref a), (2, .ref (q2 0)), (1, .ref (q 0)), (0, .ref b)]) hx hb dL_law_179 hl (by decide) rfl (fun ls hl => ?_)
    have hsim : (k_taut (xd S) = false ∧ xg S < 100) ↔ xg S < 100 := ⟨fun z => z.2, fun z => ⟨hcan.2, z⟩⟩
    simp only [hsim] at hz
    obtain ⟨z5, r1, z2, z3, z1⟩ := hz
    obtain ⟨u6, u1⟩ := hu
    have tI : LI z.1 u := by rw [z1, u1]; exact hI.clo_made 0 hm.1 hn2
    have t5 : yth u = r5 := by rw [u1, z5]
    have t6 : r5 = 0 → z.2 0 = Int32.toInt64 r6 := fun _ => by rw [z2, z3, u6, hI.1.2.2.1]
    exact lt_close (S := z.1) (T := u) (f := z.2) ⟨hx, hb, hml, hown, hts, hXs, hbl, hK, hX, hl9, hL⟩ tI hP hD hS hc hs6 kk hl t5 t6
  · refine lv_aload_n hx hb dL_law_168 rfl (lv_at hl 3 rfl) ?_
    refine lv_aload_n hx hb dL_law_169 rfl (lv_at hl 1 rfl) ?_
    refine ls_h (As := [.ref (q 0), .ref a]) (rest := []) ⟨hx, hb, hml, hown, hts⟩ (hL_close_full l D q cA cL a f S okS hl9 hcan.1 hn _) (vx_cwSW 2 hts (gd_SW bw_109 bw_110 bw_0 bw_520) rfl rfl rfl (by decide +kernel) ⟨Nat.le_of_ble_eq_true rfl, Nat.le_of_ble_eq_true rfl⟩) hX hK hP hD hS rfl hl.1 rfl (Nat.le_of_ble_eq_true rfl) dL_law_170 ⟨hc, hs6⟩ (fun r5 z H locs hz hP hD hS => ?_)
    refine lv_istore (lv' := [(5, .int r5), (4, .int (nI (3 * i))), (3, .ref a), (2, .ref (q2 0)), (1, .ref (q 0)), (0, .ref b)]) hx hb dL_law_173 hl (by decide) rfl (fun ls hl => ?_)
    refine lv_aload_n hx hb dL_law_175 rfl (lv_at hl 3 rfl) ?_
    refine ls_m (As := []) (rest := []) ⟨hx, hb, hml, hown, hts⟩ (kX1_close_full l D q2 cB T okT hm.1 hm.2 hn2 _) (cwV 0 hts (gd_V bw_299 bw_300 bw_301 bw_2 bw_302) rfl rfl rfl (by decide +kernel) ⟨Nat.le_of_ble_eq_true rfl, Nat.le_of_ble_eq_true rfl⟩) hK hP hD hS rfl hl.1 rfl (Nat.le_of_ble_eq_true rfl) dL_law_176 ⟨hc, hs6⟩ (fun r6 u H locs hu hP hD hS => ?_)
    refine lv_istore (lv' := [(6, .int r6), (5, .int r5), (4, .int (nI (3 * i))), (3, .ref a), (2, .ref (q2 0)), (1, .ref (q 0)), (0, .ref b)]) hx hb dL_law_179 hl (by decide) rfl (fun ls hl => ?_)
    obtain ⟨z5, z1⟩ := hz
    obtain ⟨-, u1⟩ := hu
    have tI : LI z.1 u := by rw [z1, u1]; exact hI.clo_full 1
    have t5 : yth u = r5 := by rw [u1, z5]
    have t6 : r5 = 0 → z.2 0 = Int32.toInt64 r6 := fun y => absurd (z5.symm.trans y) (by decide)
    exact lt_close (S := z.1) (T := u) (f := z.2) ⟨hx, hb, hml, hown, hts, hXs, hbl, hK, hX, hl9, hL⟩ tI hP hD hS hc hs6 kk hl t5 t6

end LC
theorem lo_close {p : Program} {l : Launch} {e : Env} {s : State} {m : MethodId} {below : List Frame} {meth : Method} {c : Code} {Q : State → Prop} {D : va_G} {b L a : Nat} {xs : Nat → Int32} {q q2 : Nat → Nat} {cA cL cB : ClassId} (E : lE p l s m c b L xs D cA cL cB) : lClose p l e s m below meth c Q b D q q2 cA cL cB a :=
  fun i cells slots S T f H locs ls hI hP hD hS hc hs6 kk hl => lo_close0 E hI hP hD hS hc hs6 kk hl
