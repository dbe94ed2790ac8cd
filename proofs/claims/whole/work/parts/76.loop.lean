/-! The law's loop. -/
theorem lp_inc (i : Nat) : nI (3 * i) + Int32.ofInt 3 = nI (3 * (i + 1)) := by
  rw [show Int32.ofInt 3 = nI 3 by decide, nI_add]
  rfl
theorem lp_gt {i L : Nat} (hL : L ≤ 1536) (hi : i ≤ 512) (h : L < 3 * i + 3) : Int32.ofNat L - 3 < nI (3 * i) := by
  rw [Int32.lt_iff_toInt_lt, show Int32.ofNat L - 3 = nI L - nI 3 from rfl, pk_sub_toInt (by omega) (by omega), nI_toInt (by omega)]
  omega
section LP
variable {p : Program} {l : Launch} {e : Env} {s : State} {m : MethodId} {below : List Frame} {meth : Method} {c : Code} {Q : State → Prop}
variable {D : va_G} {b L a : Nat} {xs : Nat → Int32} {q q2 : Nat → Nat} {cA cL cB : ClassId}
/-- what close() owes, as the other calls have it -/
def lClose (p : Program) (l : Launch) (e : Env) (s : State) (m : MethodId) (below : List Frame) (meth : Method) (c : Code) (Q : State → Prop) (b : Nat) (D : va_G) (q q2 : Nat → Nat) (cA cL cB : ClassId) (a : Nat) : Prop :=
  ∀ (i cells slots : Nat) (S : XS) (T : MS) (f : Nat → Int64) (H : Heap) (locs : List Loc) (ls : Array Slot), LI S T → va_P D vwCl (wL q cA S a cL f q2 cB T) H → va_D (aL s) (wL q cA S a cL f q2 cB T) → va_S (aL s) s.heap H locs → cells + 1 ≤ room_1.cells → slots + 6 ≤ room_1.slots → lK p l e s m below meth c Q b D q q2 cA cL cB a i cells slots → lv_has ls 7 (lvL b a i q q2) → W p l e room_1 s m #[Value.ref b] below meth c H locs cells slots Q (F0 m 168 ls [])
set_option maxHeartbeats 4000000 in
set_option maxRecDepth 100000 in
theorem law_loop (E : lE p l s m c b L xs D cA cL cB) (hclose : lClose p l e s m below meth c Q b D q q2 cA cL cB a)
    (hret : ∀ (H : Heap) (locs : List Loc) (ls : Array Slot) (cells slots : Nat), va_S (aL s) s.heap H locs → cells ≤ room_1.cells → slots ≤ room_1.slots → W p l e room_1 s m #[Value.ref b] below meth c H locs cells slots Q (F0 m 681 ls [.int 1])) :
    ∀ (k i : Nat) (S : XS) (T : MS) (f : Nat → Int64) (H : Heap) (locs : List Loc) (ls : Array Slot), L ≤ 3 * (i + k) + 2 → i ≤ 512 → LI S T → lv_has ls 7 (lvL b a i q q2) → va_P D vwCl (wL q cA S a cL f q2 cB T) H → va_D (aL s) (wL q cA S a cL f q2 cB T) → va_S (aL s) s.heap H locs →
      W p l e room_1 s m #[Value.ref b] below meth c H locs (20 + i) (1400 + 6 * i) Q (F0 m 23 ls []) := by
  obtain ⟨hx, hb, hml, hown, hts, hXs, hbl, hK, hX, hl9, hL⟩ := id E
  have hbA : ¬ aL s b := Nat.not_le.mpr hbl
  intro k
  induction k with
  | zero =>
    intro i S T f H locs ls hk hi5 hI hl hP hD hS
    have hl : lv_has ls 7 [(4, .int (nI (3 * i))), (3, .ref a), (2, .ref (q2 0)), (1, .ref (q 0)), (0, .ref b)] := hl
    refine lv_iload hx hb dL_law_23 (lv_at hl 0 rfl) ?_
    refine lv_aload_n hx hb dL_law_25 rfl (lv_at hl 4 rfl) ?_
    refine va_slen hx hb hXs hbl hbA hS dL_law_26 ?_
    refine lv_iconst (v := 3) hx hb dL_law_27 (by decide) ?_
    refine lv_isub hx hb dL_law_28 ?_
    refine lv_icmp_gt (tgt := 680) hx hb dL_law_29 (by decide) (fun _ => ?_) (fun z9 => absurd (lp_gt (i := i) (L := L) (by omega) (by omega) (by omega)) z9)
    refine lv_iconst (v := 1) hx hb dL_law_680 (by decide) ?_
    exact hret H locs ls _ _ hS (show 20 + i ≤ 1048 by omega) (show 1400 + 6 * i ≤ 9577 by omega)
  | succ k ih =>
    intro i S T f H locs ls hk hi5 hI hl hP hD hS
    have hl : lv_has ls 7 [(4, .int (nI (3 * i))), (3, .ref a), (2, .ref (q2 0)), (1, .ref (q 0)), (0, .ref b)] := hl
    refine lv_iload hx hb dL_law_23 (lv_at hl 0 rfl) ?_
    refine lv_aload_n hx hb dL_law_25 rfl (lv_at hl 4 rfl) ?_
    refine va_slen hx hb hXs hbl hbA hS dL_law_26 ?_
    refine lv_iconst (v := 3) hx hb dL_law_27 (by decide) ?_
    refine lv_isub hx hb dL_law_28 ?_
    refine lv_icmp_gt (tgt := 680) hx hb dL_law_29 (by decide) (fun _ => ?_) (fun z9 => ?_)
    · refine lv_iconst (v := 1) hx hb dL_law_680 (by decide) ?_
      exact hret H locs ls _ _ hS (show 20 + i ≤ 1048 by omega) (show 1400 + 6 * i ≤ 9577 by omega)
    have hi : 3 * i + 3 ≤ L := Nat.le_of_not_lt (fun z => z9 (lp_gt (by omega) (by omega) (by omega)))
    have hc : 20 + i + 1 ≤ room_1.cells := show 20 + i + 1 ≤ 1048 by omega
    have hs6 : 1400 + 6 * i + 6 ≤ room_1.slots := show 1400 + 6 * i + 6 ≤ 9577 by omega
    have kk : lK p l e s m below meth c Q b D q q2 cA cL cB a i (20 + i) (1400 + 6 * i) := by
      intro S T f H locs ls hI hl hP hD hS
      have hl : lv_has ls 7 [(4, .int (nI (3 * i))), (3, .ref a), (2, .ref (q2 0)), (1, .ref (q 0)), (0, .ref b)] := hl
      refine lv_iinc (k := 0) (v := nI (3 * (i + 1))) (lv' := lvL b a (i + 1) q q2) hx hb dL_law_674 hl rfl (lp_inc i) (by decide) rfl (fun ls hl => ?_)
      refine lv_goto (tgt := 23) hx hb dL_law_677 (by decide) ?_
      exact ih (i + 1) S T f H locs ls (by omega) (by omega) hI hl hP hD hS
    refine lv_aload_n hx hb dL_law_32 rfl (lv_at hl 4 rfl) ?_
    refine lv_iload hx hb dL_law_33 (lv_at hl 0 rfl) ?_
    refine ls_ld hx hb hXs hbl hbA hS (3 * i) (by omega) hL dL_law_35 ?_
    refine lv_bipush (v := 15) hx hb dL_law_36 (by decide) ?_
    refine lv_iand hx hb dL_law_38 ?_
    obtain ⟨j, hj, ej⟩ := pk_andE (xs (3 * i)) (m := 15) 4 (by decide)
    rw [ej]
    have h16 : j = 0 ∨ j = 1 ∨ j = 2 ∨ j = 3 ∨ j = 4 ∨ j = 5 ∨ j = 6 ∨ j = 7 ∨ j = 8 ∨ j = 9 ∨ j = 10 ∨ j = 11 ∨ j = 12 ∨ j = 13 ∨ j = 14 ∨ j = 15 := by omega
    rcases h16 with rfl | rfl | rfl | rfl | rfl | rfl | rfl | rfl | rfl | rfl | rfl | rfl | rfl | rfl | rfl | rfl
    · refine lv_tableIn (off := 73) (tgt := 112) hx hb dL_law_39 (by decide) (by decide) (by decide) (by decide) ?_
      exact lo_literal E hI hP hD hS hc hs6 kk hl hi
    · refine lv_tableIn (off := 129) (tgt := 168) hx hb dL_law_39 (by decide) (by decide) (by decide) (by decide) ?_
      exact hclose i _ _ S T f H locs ls hI hP hD hS hc hs6 kk hl
    · refine lv_tableIn (off := 173) (tgt := 212) hx hb dL_law_39 (by decide) (by decide) (by decide) (by decide) ?_
      exact lo_step E hI hP hD hS hc hs6 kk hl hi
    · refine lv_tableIn (off := 229) (tgt := 268) hx hb dL_law_39 (by decide) (by decide) (by decide) (by decide) ?_
      exact lo_eliminate E hI hP hD hS hc hs6 kk hl hi
    · refine lv_tableIn (off := 285) (tgt := 324) hx hb dL_law_39 (by decide) (by decide) (by decide) (by decide) ?_
      exact lo_satisfiable E hI hP hD hS hc hs6 kk hl
    · refine lv_tableIn (off := 298) (tgt := 337) hx hb dL_law_39 (by decide) (by decide) (by decide) (by decide) ?_
      exact lo_clauses E hI hP hD hS hc hs6 kk hl
    · refine lv_tableIn (off := 311) (tgt := 350) hx hb dL_law_39 (by decide) (by decide) (by decide) (by decide) ?_
      exact lo_clause E hI hP hD hS hc hs6 kk hl hi
    · refine lv_tableIn (off := 367) (tgt := 406) hx hb dL_law_39 (by decide) (by decide) (by decide) (by decide) ?_
      exact lo_number E hI hP hD hS hc hs6 kk hl hi
    · refine lv_tableIn (off := 423) (tgt := 462) hx hb dL_law_39 (by decide) (by decide) (by decide) (by decide) ?_
      exact lo_entries E hI hP hD hS hc hs6 kk hl
    · refine lv_tableIn (off := 436) (tgt := 475) hx hb dL_law_39 (by decide) (by decide) (by decide) (by decide) ?_
      exact lo_entry E hI hP hD hS hc hs6 kk hl hi
    · refine lv_tableIn (off := 492) (tgt := 531) hx hb dL_law_39 (by decide) (by decide) (by decide) (by decide) ?_
      exact lo_assign E hI hP hD hS hc hs6 kk hl hi
    · refine lv_tableIn (off := 583) (tgt := 622) hx hb dL_law_39 (by decide) (by decide) (by decide) (by decide) ?_
      exact lo_failing E hI hP hD hS hc hs6 kk hl
    · refine lv_tableIn (off := 596) (tgt := 635) hx hb dL_law_39 (by decide) (by decide) (by decide) (by decide) ?_
      exact lo_extend E hI hP hD hS hc hs6 kk hl
    · refine lv_tableIn (off := 609) (tgt := 648) hx hb dL_law_39 (by decide) (by decide) (by decide) (by decide) ?_
      exact lo_assignment E hI hP hD hS hc hs6 kk hl
    · refine lv_tableIn (off := 622) (tgt := 661) hx hb dL_law_39 (by decide) (by decide) (by decide) (by decide) ?_
      exact lo_unmet E hI hP hD hS hc hs6 kk hl
    · refine lv_tableOut (tgt := 674) hx hb dL_law_39 (by decide) (by decide) ?_
      exact xw_wide (k := 20 + i + 1) (n9 := 1400 + 6 * i + 6) (by omega) (by omega) (kk S T f H locs ls hI hl hP hD hS)
end LP
