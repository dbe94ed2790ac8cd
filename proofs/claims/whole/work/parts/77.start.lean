/-! The law's start: both objects and the row of one long, then its loop. -/
theorem gd_I {x : Cond} {n : Nat} {y : MethodName} {cc : ByteArray} {r : Option FieldType} (h5 : Cond.code y cc n r ∈ BW) : GoodIn (x :: BW) (Cond.code y cc n r :: BW) := by
  intro w hw
  rcases List.mem_cons.mp hw with rfl | h
  · exact gd_mem h5
  · exact gd_mem h
theorem LI_0 : LI x0_S y0_S := by
  refine ⟨⟨rfl, rfl, rfl, rfl, rfl, rfl⟩, ⟨Nat.zero_le _, Nat.zero_le _, Nat.zero_le _⟩, ⟨Nat.zero_le _, Nat.zero_le _, Nat.zero_le _⟩, fun c hc => (nomatch hc), k_ok_0, fun i hi => ?_, fun c hc => (nomatch hc), fun c hc => (nomatch hc)⟩
  rw [show bt (xt x0_S) i = bt 0 i from rfl, b_0] at hi
  cases hi
section LS
variable {p : Program} {l : Launch} {e : Env} {s : State} {m : MethodId} {below : List Frame} {meth : Method} {c : Code} {Q : State → Prop} {b L : Nat} {xs : Nat → Int32}
set_option maxHeartbeats 4000000 in
set_option maxRecDepth 100000 in
theorem law_start (hx : p.tables.exec = Jvm.exec) (hb : c.code = cL_law) (hml : c.maxLocals = 7) (hown : s.vm.findClass RL = some m.cls) (hts : ∀ w ∈ Cond.tt :: BW, w.before #[Value.ref b] s = true) (hXs : va_X b L xs s s.heap) (hbl : b < s.heap.size) (hX : xt_X (aL s) s s.heap) (hl9 : l.stackTraces = false) (hL : L ≤ 1536)
    (hclose : ∀ (D : va_G) (q q2 : Nat → Nat) (cA cL cB : ClassId) (a : Nat), lE p l s m c b L xs D cA cL cB → lClose p l e s m below meth c Q b D q q2 cA cL cB a)
    (hret : ∀ (H : Heap) (locs : List Loc) (ls : Array Slot) (cells slots : Nat), va_S (aL s) s.heap H locs → cells ≤ room_1.cells → slots ≤ room_1.slots → W p l e room_1 s m #[Value.ref b] below meth c H locs cells slots Q (F0 m 681 ls [.int 1])) :
    W p l e room_1 s m #[Value.ref b] below meth c s.heap [] 0 0 Q (entryFrame m ([Value.ref b] : List Value).toArray 7) := by
  have hin0 : ∀ w ∈ u_ws RX0 TX0 12, w ∈ Cond.tt :: BW := fun w h => List.mem_cons_of_mem _ (bw_X0 w h)
  have hin1 : ∀ w ∈ u_ws RX1 TX1 12, w ∈ Cond.tt :: BW := fun w h => List.mem_cons_of_mem _ (bw_X1 w h)
  have hi0 := hts _ (List.mem_cons_of_mem _ bw_12)
  have hi1 := hts _ (List.mem_cons_of_mem _ bw_253)
  obtain ⟨d0, i0, hk0⟩ := u_known hts hin0 hi0
  obtain ⟨d1, i1, hk1⟩ := u_known hts hin1 hi1
  obtain ⟨D, hDD⟩ : ∃ D : va_G, D = ((fun c => if c = 0 then d0 else d1), (fun c => if c = 0 then i0 else i1)) := ⟨_, rfl⟩
  have hK : va_K D vwCl [] s := by
    refine ⟨fun c q hq => ?_, fun k q hk => (nomatch hk)⟩
    rw [hDD]
    match c, hq with
    | 0, hq => cases hq; exact hk0
    | 1, hq => cases hq; exact hk1
    | n + 2, hq => cases hq
  have hP : va_P D vwCl [] s.heap := fun k q hk => nomatch hk
  have hD : va_D (aL s) [] := ⟨fun i j p q hi => (nomatch hi), fun k q hk => (nomatch hk)⟩
  have hS : va_S (aL s) s.heap s.heap [] := va_S.rf
  have hA : ∀ z, s.heap.size ≤ z → aL s z := fun _ h => h
  have hl := lv_entry ([.ref b]) (n := 7) (Nat.le_of_ble_eq_true rfl)
  rw [lg_entry_eq]
  generalize (lg_sl ([.ref b]) ++ List.replicate (7 - (lg_sl ([.ref b])).length) Slot.unset).toArray = ls at hl ⊢
  have hl : lv_has ls 7 [(0, .ref b)] := hl
  refine va_new (ci := 0) (fs := [.int 0, .int 0, .null, .null, .int 0, .int 0, .null, .null, .int 0, .null, .int 0, .null]) (C := RX0) (T := TX0) (N := 12) hx hb hts hin0 tyX0 tyX0_ok hown (hts _ (List.mem_cons_of_mem _ bw_11)) hi0 (hts _ (List.mem_cons_of_mem _ bw_1)) hK hP hD hS hA rfl (by decide +kernel) (Nat.le_of_ble_eq_true rfl) (Nat.le_of_ble_eq_true rfl) dL_law_0 (fun q0 H hP hD hS => ?_)
  refine lv_dup hx hb dL_law_3 rfl ?_
  have hFc : ∀ z, va_A [(q0, .inr (0, [.int 0, .int 0, .null, .null, .int 0, .int 0, .null, .null, .int 0, .null, .int 0, .null]))] H.size z → aL s z := fun z h => by
    rcases h with ⟨k, e1, h⟩ | h
    · exact hD.2 k (z, e1) h
    · exact hA z (Nat.le_trans hS.1 h)
  refine va_callv (va_runI (As := []) (rest := [.ref q0]) ⟨hx, hb, hml, hown, hts⟩ (kX0_init l D q0 H.size) (cwI 0 hts (gd_I bw_15) rfl rfl rfl (hts _ (List.mem_cons_of_mem _ bw_1)) (hts _ (List.mem_cons_of_mem _ bw_13)) (hts _ (List.mem_cons_of_mem _ bw_14)) rfl (by decide +kernel) ⟨Nat.le_of_ble_eq_true rfl, Nat.le_of_ble_eq_true rfl⟩) ⟨xw_blind _ _ _ _ _ _, fun U hU hW => ⟨rfl, by rw [hU], by rw [hU]; exact hP, va_K.moved hW.alike hK, hD.weaken (fun _ _ _ _ => trivial)⟩⟩ rfl rfl hl.1 rfl (lv_room (Nat.le_of_ble_eq_true rfl)) dL_law_4 ⟨Nat.le_of_ble_eq_true rfl, Nat.le_of_ble_eq_true rfl⟩) hS (fun q _ h => hFc q h) hFc (fun u t H1 locs ht hvm hw hB hz1 hk1 hS => ?_)
  obtain ⟨hP1, hKA, hD1⟩ := hB
  rw [ht] at hP1
  obtain ⟨q, cA⟩ := u
  obtain rfl : q 0 = q0 := hw
  have hKA : va_K D vwCl [(cA, .int)] s := va_K.moved hvm.symm hKA
  have hP : va_P D vwCl (wX q cA x0_S) H1 := hP1
  have hD : va_D (aL s) (wX q cA x0_S) := hD1.weaken (fun k z _ h => hFc z.1 h)
  refine lv_astore_n (lv' := [(1, .ref (q 0)), (0, .ref b)]) hx hb dL_law_7 rfl hl (by decide) rfl (fun ls hl => ?_)
  refine va_new (ci := 1) (fs := [.int 0, .int 0, .null, .null, .int 0, .int 0, .null, .null, .int 0, .null, .int 0, .int 0]) (C := RX1) (T := TX1) (N := 12) hx hb hts hin1 tyX1 tyX1_ok hown (hts _ (List.mem_cons_of_mem _ bw_252)) hi1 (hts _ (List.mem_cons_of_mem _ bw_2)) hKA hP hD hS hA rfl (by decide +kernel) (Nat.le_of_ble_eq_true rfl) (Nat.le_of_ble_eq_true rfl) dL_law_8 (fun p0 H hP hD hS => ?_)
  refine lv_dup hx hb dL_law_11 rfl ?_
  have hP2 := pt_P2 hP
  have hD2 := pt_D2 hD
  have hFc := pt_fc hD2 hS hA
  refine va_callv (va_runI (As := []) (rest := [.ref p0]) ⟨hx, hb, hml, hown, hts⟩ (kX1_init l D p0 H.size) (cwI 0 hts (gd_I bw_256) rfl rfl rfl (hts _ (List.mem_cons_of_mem _ bw_2)) (hts _ (List.mem_cons_of_mem _ bw_254)) (hts _ (List.mem_cons_of_mem _ bw_255)) rfl (by decide +kernel) ⟨Nat.le_of_ble_eq_true rfl, Nat.le_of_ble_eq_true rfl⟩) ⟨xw_blind _ _ _ _ _ _, fun U hU hW => ⟨rfl, by rw [hU], by rw [hU]; exact pt_PL hP2, va_K.moved hW.alike hK, (pt_DL hD2).weaken (fun _ _ _ _ => trivial)⟩⟩ rfl rfl hl.1 rfl (lv_room (Nat.le_of_ble_eq_true rfl)) dL_law_12 ⟨Nat.le_of_ble_eq_true rfl, Nat.le_of_ble_eq_true rfl⟩) hS (fun q _ h => hFc q h) hFc (fun u t H1 locs ht hvm hw hB hz1 hk1 hS => ?_)
  obtain ⟨hP1, hKB, hD1⟩ := hB
  rw [ht] at hP1
  obtain ⟨q2, cB⟩ := u
  obtain rfl : q2 0 = p0 := hw
  have hKB : va_K D vwCl [(cB, .int)] s := va_K.moved hvm.symm hKB
  obtain ⟨hP, hD⟩ := pt_join hP2 hD2 hP1 hD1 hFc hk1
  refine lv_astore_n (lv' := [(2, .ref (q2 0)), (1, .ref (q 0)), (0, .ref b)]) hx hb dL_law_15 rfl hl (by decide) rfl (fun ls hl => ?_)
  refine lv_iconst (v := 1) hx hb dL_law_16 (by decide) ?_
  have hKAB : va_K D vwCl ([(cA, .int)] ++ [(cB, .int)]) s := hKA.app hKB
  refine va_newa (atype := .long) (ty := .long) (N' := 1) (a0 := (1, .inr (.inl (fun _ => 0)))) hx hb (hts _ (List.mem_cons_of_mem _ bw_409)) rfl hKAB hP hD hS hA (fun cA => rfl) (by decide) (by decide) (by decide) (Nat.le_of_ble_eq_true rfl) (Nat.le_of_ble_eq_true rfl) dL_law_17 (fun a cL H hK3 hP hD hS => ?_)
  refine lv_astore_n (lv' := [(3, .ref a), (2, .ref (q2 0)), (1, .ref (q 0)), (0, .ref b)]) hx hb dL_law_19 rfl hl (by decide) rfl (fun ls hl => ?_)
  refine lv_iconst (v := 0) hx hb dL_law_20 (by decide) ?_
  refine lv_istore (lv' := [(4, .int 0), (3, .ref a), (2, .ref (q2 0)), (1, .ref (q 0)), (0, .ref b)]) hx hb dL_law_21 hl (by decide) rfl (fun ls hl => ?_)
  have hKL : va_K D vwCl (tyL cA cL cB) s := hK3.sub [0, 2, 1] rfl
  have E : lE p l s m c b L xs D cA cL cB := ⟨hx, hb, hml, hown, hts, hXs, hbl, hKL, hX, hl9, hL⟩
  have hP3 : va_P D vwCl (wL q cA x0_S a cL (fun _ => 0) q2 cB y0_S) H := pt_P2 (a := wM q2 cB y0_S) (b := wX q cA x0_S ++ xl a cL (fun _ => 0)) (by rw [← List.append_assoc]; exact hP)
  have hD3 : va_D (aL s) (wL q cA x0_S a cL (fun _ => 0) q2 cB y0_S) := pt_D2 (a := wM q2 cB y0_S) (b := wX q cA x0_S ++ xl a cL (fun _ => 0)) (by rw [← List.append_assoc]; exact hD)
  have hl0 : lv_has ls 7 (lvL b a 0 q q2) := hl
  exact xw_wide (k := 20 + 0) (n9 := 1400 + 6 * 0) (Nat.le_of_ble_eq_true rfl) (Nat.le_of_ble_eq_true rfl) (law_loop E (hclose D q q2 cA cL cB a E) hret 512 0 x0_S y0_S (fun _ => 0) H _ ls (by omega) (by omega) LI_0 hl0 hP3 hD3 hS)
end LS
