/-! The class: more methods that only read. -/
set_option maxHeartbeats 4000000 in
set_option maxRecDepth 100000 in
theorem kJ6_bitCount (l : Launch) (x : Int32) : xs_M l yJ6_bitCount wsJ6_bitCount ({ frames := 0, cells := 0, slots := 0, locals := 0 }) [.int x] (k_bc x) := by
  refine Met.ofW (cc := cJ6_bitCount) (maxL := 1) (ret := (some .int)) (by decide) rfl ?_
  intro p e s m args below meth c s₁ B hml hv
  subst hv
  have hx := B.exec
  have hb := B.bytes
  have hr := B.returns
  have hts := atoms_spec (ws := wsJ6_bitCount) B.pre
  have hown : s.vm.findClass RJ6 = some m.cls := findClass_of_methodNamed B.named
  have hlocks := B.notSynchronized
  have hl := lv_entry ([.int x]) (n := 1) (Nat.le_of_ble_eq_true rfl)
  rw [lg_entry_eq]
  generalize (lg_sl ([.int x]) ++ List.replicate (1 - (lg_sl ([.int x])).length) Slot.unset).toArray = ls at hl ⊢
  have hl : lv_has ls 1 [(0, .int x)] := hl
  refine lv_iload_n hx hb dJ6_bitCount_0 rfl (lv_at hl 0 rfl) ?_
  refine lv_iload_n hx hb dJ6_bitCount_1 rfl (lv_at hl 0 rfl) ?_
  refine lv_iconst (v := 1) hx hb dJ6_bitCount_2 (by decide) ?_
  refine lv_iushr (v := k_ush x 1) hx hb dJ6_bitCount_3 rfl ?_
  refine lv_ldcw (v := 1431655765) hx hb hown (hts _ (List.mem_cons_of_mem _ bw_106)) dJ6_bitCount_4 ?_
  refine lv_iand hx hb dJ6_bitCount_7 ?_
  refine lv_isub hx hb dJ6_bitCount_8 ?_
  refine lv_topi (fun b1 eb1 => ?_)
  refine lv_istore_n (lv' := [(0, .int b1)]) hx hb dJ6_bitCount_9 rfl hl (by decide) rfl (fun ls hl => ?_)
  refine lv_iload_n hx hb dJ6_bitCount_10 rfl (lv_at hl 0 rfl) ?_
  refine lv_ldcw (v := 858993459) hx hb hown (hts _ (List.mem_cons_of_mem _ bw_107)) dJ6_bitCount_11 ?_
  refine lv_iand hx hb dJ6_bitCount_14 ?_
  refine lv_iload_n hx hb dJ6_bitCount_15 rfl (lv_at hl 0 rfl) ?_
  refine lv_iconst (v := 2) hx hb dJ6_bitCount_16 (by decide) ?_
  refine lv_iushr (v := k_ush b1 2) hx hb dJ6_bitCount_17 rfl ?_
  refine lv_ldcw (v := 858993459) hx hb hown (hts _ (List.mem_cons_of_mem _ bw_107)) dJ6_bitCount_18 ?_
  refine lv_iand hx hb dJ6_bitCount_21 ?_
  refine lv_iadd hx hb dJ6_bitCount_22 ?_
  refine lv_topi (fun b2 eb2 => ?_)
  refine lv_istore_n (lv' := [(0, .int b2)]) hx hb dJ6_bitCount_23 rfl hl (by decide) rfl (fun ls hl => ?_)
  refine lv_iload_n hx hb dJ6_bitCount_24 rfl (lv_at hl 0 rfl) ?_
  refine lv_iload_n hx hb dJ6_bitCount_25 rfl (lv_at hl 0 rfl) ?_
  refine lv_iconst (v := 4) hx hb dJ6_bitCount_26 (by decide) ?_
  refine lv_iushr (v := k_ush b2 4) hx hb dJ6_bitCount_27 rfl ?_
  refine lv_iadd hx hb dJ6_bitCount_28 ?_
  refine lv_ldcw (v := 252645135) hx hb hown (hts _ (List.mem_cons_of_mem _ bw_108)) dJ6_bitCount_29 ?_
  refine lv_iand hx hb dJ6_bitCount_32 ?_
  refine lv_topi (fun b3 eb3 => ?_)
  refine lv_istore_n (lv' := [(0, .int b3)]) hx hb dJ6_bitCount_33 rfl hl (by decide) rfl (fun ls hl => ?_)
  refine lv_iload_n hx hb dJ6_bitCount_34 rfl (lv_at hl 0 rfl) ?_
  refine lv_iload_n hx hb dJ6_bitCount_35 rfl (lv_at hl 0 rfl) ?_
  refine lv_bipush (v := 8) hx hb dJ6_bitCount_36 (by decide) ?_
  refine lv_iushr (v := k_ush b3 8) hx hb dJ6_bitCount_38 rfl ?_
  refine lv_iadd hx hb dJ6_bitCount_39 ?_
  refine lv_topi (fun b4 eb4 => ?_)
  refine lv_istore_n (lv' := [(0, .int b4)]) hx hb dJ6_bitCount_40 rfl hl (by decide) rfl (fun ls hl => ?_)
  refine lv_iload_n hx hb dJ6_bitCount_41 rfl (lv_at hl 0 rfl) ?_
  refine lv_iload_n hx hb dJ6_bitCount_42 rfl (lv_at hl 0 rfl) ?_
  refine lv_bipush (v := 16) hx hb dJ6_bitCount_43 (by decide) ?_
  refine lv_iushr (v := k_ush b4 16) hx hb dJ6_bitCount_45 rfl ?_
  refine lv_iadd hx hb dJ6_bitCount_46 ?_
  refine lv_topi (fun b5 eb5 => ?_)
  refine lv_istore_n (lv' := [(0, .int b5)]) hx hb dJ6_bitCount_47 rfl hl (by decide) rfl (fun ls hl => ?_)
  refine lv_iload_n hx hb dJ6_bitCount_48 rfl (lv_at hl 0 rfl) ?_
  refine lv_bipush (v := 63) hx hb dJ6_bitCount_49 (by decide) ?_
  refine lv_iand hx hb dJ6_bitCount_51 ?_
  have hv9 : k_bc x = b5 &&& 63 := by subst eb1; subst eb2; subst eb3; subst eb4; subst eb5; rfl
  exact W.iret (v := (b5 &&& 63)) hx hb hr (fun t ht hW => ⟨by rw [hv9], ht⟩) (fun _ h => nomatch h) dJ6_bitCount_52

set_option maxHeartbeats 4000000 in
set_option maxRecDepth 100000 in
theorem kJ6_numberOfTrailingZeros (l : Launch) (x : Int32) : xs_M l yJ6_numberOfTrailingZeros wsJ6_numberOfTrailingZeros ({ frames := 0, cells := 0, slots := 0, locals := 0 }) [.int x] (k_ntz x) := by
  refine Met.ofW (cc := cJ6_numberOfTrailingZeros) (maxL := 2) (ret := (some .int)) (by decide) rfl ?_
  intro p e s m args below meth c s₁ B hml hv
  subst hv
  have hx := B.exec
  have hb := B.bytes
  have hr := B.returns
  have hts := atoms_spec (ws := wsJ6_numberOfTrailingZeros) B.pre
  have hown : s.vm.findClass RJ6 = some m.cls := findClass_of_methodNamed B.named
  have hlocks := B.notSynchronized
  have hl := lv_entry ([.int x]) (n := 2) (Nat.le_of_ble_eq_true rfl)
  rw [lg_entry_eq]
  generalize (lg_sl ([.int x]) ++ List.replicate (2 - (lg_sl ([.int x])).length) Slot.unset).toArray = ls at hl ⊢
  have hl : lv_has ls 2 [(0, .int x)] := hl
  refine lv_iload_n hx hb dJ6_numberOfTrailingZeros_0 rfl (lv_at hl 0 rfl) ?_
  refine lv_iconst (v := (-1)) hx hb dJ6_numberOfTrailingZeros_1 (by decide) ?_
  refine xi_not hx hb dJ6_numberOfTrailingZeros_2 ?_
  refine lv_iload_n hx hb dJ6_numberOfTrailingZeros_3 rfl (lv_at hl 0 rfl) ?_
  refine lv_iconst (v := 1) hx hb dJ6_numberOfTrailingZeros_4 (by decide) ?_
  refine lv_isub hx hb dJ6_numberOfTrailingZeros_5 ?_
  refine lv_iand hx hb dJ6_numberOfTrailingZeros_6 ?_
  refine lv_istore_n (lv' := [(0, .int ((k_not x) &&& (x - 1)))]) hx hb dJ6_numberOfTrailingZeros_7 rfl hl (by decide) rfl (fun ls hl => ?_)
  refine lv_iload_n hx hb dJ6_numberOfTrailingZeros_8 rfl (lv_at hl 0 rfl) ?_
  refine lv_if_gt (tgt := 17) hx hb dJ6_numberOfTrailingZeros_9 (by decide) (fun hc9 => ?_) (fun hc9 => ?_)
  · refine lv_iconst (v := 1) hx hb dJ6_numberOfTrailingZeros_17 (by decide) ?_
    refine lv_istore_n (lv' := [(1, .int 1), (0, .int ((k_not x) &&& (x - 1)))]) hx hb dJ6_numberOfTrailingZeros_18 rfl hl (by decide) rfl (fun ls hl => ?_)
    refine lv_iload_n hx hb dJ6_numberOfTrailingZeros_19 rfl (lv_at hl 1 rfl) ?_
    refine lv_ldcw (v := 65536) hx hb hown (hts _ (List.mem_cons_of_mem _ bw_245)) dJ6_numberOfTrailingZeros_20 ?_
    refine lv_icmp_le (tgt := 34) hx hb dJ6_numberOfTrailingZeros_23 (by decide) (fun hc23 => ?_) (fun hc23 => ?_)
    · refine lv_iload_n hx hb dJ6_numberOfTrailingZeros_34 rfl (lv_at hl 1 rfl) ?_
      refine lv_sipush (v := 256) hx hb dJ6_numberOfTrailingZeros_35 (by decide) ?_
      refine lv_icmp_le (tgt := 49) hx hb dJ6_numberOfTrailingZeros_38 (by decide) (fun hc38 => ?_) (fun hc38 => ?_)
      · refine lv_iload_n hx hb dJ6_numberOfTrailingZeros_49 rfl (lv_at hl 1 rfl) ?_
        refine lv_bipush (v := 16) hx hb dJ6_numberOfTrailingZeros_50 (by decide) ?_
        refine lv_icmp_le (tgt := 62) hx hb dJ6_numberOfTrailingZeros_52 (by decide) (fun hc52 => ?_) (fun hc52 => ?_)
        · refine lv_iload_n hx hb dJ6_numberOfTrailingZeros_62 rfl (lv_at hl 1 rfl) ?_
          refine lv_iconst (v := 4) hx hb dJ6_numberOfTrailingZeros_63 (by decide) ?_
          refine lv_icmp_le (tgt := 74) hx hb dJ6_numberOfTrailingZeros_64 (by decide) (fun hc64 => ?_) (fun hc64 => ?_)
          · refine lv_iload_n hx hb dJ6_numberOfTrailingZeros_74 rfl (lv_at hl 0 rfl) ?_
            refine lv_iload_n hx hb dJ6_numberOfTrailingZeros_75 rfl (lv_at hl 1 rfl) ?_
            refine lv_iconst (v := 1) hx hb dJ6_numberOfTrailingZeros_76 (by decide) ?_
            refine lv_iushr (v := k_ush ((k_not x) &&& (x - 1)) 1) hx hb dJ6_numberOfTrailingZeros_77 rfl ?_
            refine lv_iadd hx hb dJ6_numberOfTrailingZeros_78 ?_
            have hv9 : k_ntz x = 1 + (k_ush ((k_not x) &&& (x - 1)) 1) := by simp [k_ntz, hc9, hc23, hc38, hc52, hc64]
            exact W.iret (v := (1 + (k_ush ((k_not x) &&& (x - 1)) 1))) hx hb hr (fun t ht hW => ⟨by rw [hv9], ht⟩) (fun _ h => nomatch h) dJ6_numberOfTrailingZeros_79
          · refine lv_iinc (k := 0) (v := 1 + 2) (lv' := [(1, .int (1 + 2)), (0, .int ((k_not x) &&& (x - 1)))]) hx hb dJ6_numberOfTrailingZeros_67 hl rfl (by first | rfl | decide) (by decide) rfl (fun ls hl => ?_)
            refine lv_iload_n hx hb dJ6_numberOfTrailingZeros_70 rfl (lv_at hl 1 rfl) ?_
            refine lv_iconst (v := 2) hx hb dJ6_numberOfTrailingZeros_71 (by decide) ?_
            refine lv_iushr (v := k_ush ((k_not x) &&& (x - 1)) 2) hx hb dJ6_numberOfTrailingZeros_72 rfl ?_
            refine lv_istore_n (lv' := [(0, .int (k_ush ((k_not x) &&& (x - 1)) 2)), (1, .int (1 + 2))]) hx hb dJ6_numberOfTrailingZeros_73 rfl hl (by decide) rfl (fun ls hl => ?_)
            refine lv_iload_n hx hb dJ6_numberOfTrailingZeros_74 rfl (lv_at hl 1 rfl) ?_
            refine lv_iload_n hx hb dJ6_numberOfTrailingZeros_75 rfl (lv_at hl 0 rfl) ?_
            refine lv_iconst (v := 1) hx hb dJ6_numberOfTrailingZeros_76 (by decide) ?_
            refine lv_iushr (v := k_ush (k_ush ((k_not x) &&& (x - 1)) 2) 1) hx hb dJ6_numberOfTrailingZeros_77 rfl ?_
            refine lv_iadd hx hb dJ6_numberOfTrailingZeros_78 ?_
            have hv9 : k_ntz x = (1 + 2) + (k_ush (k_ush ((k_not x) &&& (x - 1)) 2) 1) := by simp [k_ntz, hc9, hc23, hc38, hc52, hc64]
            exact W.iret (v := ((1 + 2) + (k_ush (k_ush ((k_not x) &&& (x - 1)) 2) 1))) hx hb hr (fun t ht hW => ⟨by rw [hv9], ht⟩) (fun _ h => nomatch h) dJ6_numberOfTrailingZeros_79
        · refine lv_iinc (k := 0) (v := 1 + 4) (lv' := [(1, .int (1 + 4)), (0, .int ((k_not x) &&& (x - 1)))]) hx hb dJ6_numberOfTrailingZeros_55 hl rfl (by first | rfl | decide) (by decide) rfl (fun ls hl => ?_)
          refine lv_iload_n hx hb dJ6_numberOfTrailingZeros_58 rfl (lv_at hl 1 rfl) ?_
          refine lv_iconst (v := 4) hx hb dJ6_numberOfTrailingZeros_59 (by decide) ?_
          refine lv_iushr (v := k_ush ((k_not x) &&& (x - 1)) 4) hx hb dJ6_numberOfTrailingZeros_60 rfl ?_
          refine lv_istore_n (lv' := [(0, .int (k_ush ((k_not x) &&& (x - 1)) 4)), (1, .int (1 + 4))]) hx hb dJ6_numberOfTrailingZeros_61 rfl hl (by decide) rfl (fun ls hl => ?_)
          refine lv_iload_n hx hb dJ6_numberOfTrailingZeros_62 rfl (lv_at hl 0 rfl) ?_
          refine lv_iconst (v := 4) hx hb dJ6_numberOfTrailingZeros_63 (by decide) ?_
          refine lv_icmp_le (tgt := 74) hx hb dJ6_numberOfTrailingZeros_64 (by decide) (fun hc64 => ?_) (fun hc64 => ?_)
          · refine lv_iload_n hx hb dJ6_numberOfTrailingZeros_74 rfl (lv_at hl 1 rfl) ?_
            refine lv_iload_n hx hb dJ6_numberOfTrailingZeros_75 rfl (lv_at hl 0 rfl) ?_
            refine lv_iconst (v := 1) hx hb dJ6_numberOfTrailingZeros_76 (by decide) ?_
            refine lv_iushr (v := k_ush (k_ush ((k_not x) &&& (x - 1)) 4) 1) hx hb dJ6_numberOfTrailingZeros_77 rfl ?_
            refine lv_iadd hx hb dJ6_numberOfTrailingZeros_78 ?_
            have hv9 : k_ntz x = (1 + 4) + (k_ush (k_ush ((k_not x) &&& (x - 1)) 4) 1) := by simp [k_ntz, hc9, hc23, hc38, hc52, hc64]
            exact W.iret (v := ((1 + 4) + (k_ush (k_ush ((k_not x) &&& (x - 1)) 4) 1))) hx hb hr (fun t ht hW => ⟨by rw [hv9], ht⟩) (fun _ h => nomatch h) dJ6_numberOfTrailingZeros_79
          · refine lv_iinc (k := 1) (v := (1 + 4) + 2) (lv' := [(1, .int ((1 + 4) + 2)), (0, .int (k_ush ((k_not x) &&& (x - 1)) 4))]) hx hb dJ6_numberOfTrailingZeros_67 hl rfl (by first | rfl | decide) (by decide) rfl (fun ls hl => ?_)
            refine lv_iload_n hx hb dJ6_numberOfTrailingZeros_70 rfl (lv_at hl 1 rfl) ?_
            refine lv_iconst (v := 2) hx hb dJ6_numberOfTrailingZeros_71 (by decide) ?_
            refine lv_iushr (v := k_ush (k_ush ((k_not x) &&& (x - 1)) 4) 2) hx hb dJ6_numberOfTrailingZeros_72 rfl ?_
            refine lv_istore_n (lv' := [(0, .int (k_ush (k_ush ((k_not x) &&& (x - 1)) 4) 2)), (1, .int ((1 + 4) + 2))]) hx hb dJ6_numberOfTrailingZeros_73 rfl hl (by decide) rfl (fun ls hl => ?_)
            refine lv_iload_n hx hb dJ6_numberOfTrailingZeros_74 rfl (lv_at hl 1 rfl) ?_
            refine lv_iload_n hx hb dJ6_numberOfTrailingZeros_75 rfl (lv_at hl 0 rfl) ?_
            refine lv_iconst (v := 1) hx hb dJ6_numberOfTrailingZeros_76 (by decide) ?_
            refine lv_iushr (v := k_ush (k_ush (k_ush ((k_not x) &&& (x - 1)) 4) 2) 1) hx hb dJ6_numberOfTrailingZeros_77 rfl ?_
            refine lv_iadd hx hb dJ6_numberOfTrailingZeros_78 ?_
            have hv9 : k_ntz x = ((1 + 4) + 2) + (k_ush (k_ush (k_ush ((k_not x) &&& (x - 1)) 4) 2) 1) := by simp [k_ntz, hc9, hc23, hc38, hc52, hc64]
            exact W.iret (v := (((1 + 4) + 2) + (k_ush (k_ush (k_ush ((k_not x) &&& (x - 1)) 4) 2) 1))) hx hb hr (fun t ht hW => ⟨by rw [hv9], ht⟩) (fun _ h => nomatch h) dJ6_numberOfTrailingZeros_79
      · refine lv_iinc (k := 0) (v := 1 + 8) (lv' := [(1, .int (1 + 8)), (0, .int ((k_not x) &&& (x - 1)))]) hx hb dJ6_numberOfTrailingZeros_41 hl rfl (by first | rfl | decide) (by decide) rfl (fun ls hl => ?_)
        refine lv_iload_n hx hb dJ6_numberOfTrailingZeros_44 rfl (lv_at hl 1 rfl) ?_
        refine lv_bipush (v := 8) hx hb dJ6_numberOfTrailingZeros_45 (by decide) ?_
        refine lv_iushr (v := k_ush ((k_not x) &&& (x - 1)) 8) hx hb dJ6_numberOfTrailingZeros_47 rfl ?_
        refine lv_istore_n (lv' := [(0, .int (k_ush ((k_not x) &&& (x - 1)) 8)), (1, .int (1 + 8))]) hx hb dJ6_numberOfTrailingZeros_48 rfl hl (by decide) rfl (fun ls hl => ?_)
        refine lv_iload_n hx hb dJ6_numberOfTrailingZeros_49 rfl (lv_at hl 0 rfl) ?_
        refine lv_bipush (v := 16) hx hb dJ6_numberOfTrailingZeros_50 (by decide) ?_
        refine lv_icmp_le (tgt := 62) hx hb dJ6_numberOfTrailingZeros_52 (by decide) (fun hc52 => ?_) (fun hc52 => ?_)
        · refine lv_iload_n hx hb dJ6_numberOfTrailingZeros_62 rfl (lv_at hl 0 rfl) ?_
          refine lv_iconst (v := 4) hx hb dJ6_numberOfTrailingZeros_63 (by decide) ?_
          refine lv_icmp_le (tgt := 74) hx hb dJ6_numberOfTrailingZeros_64 (by decide) (fun hc64 => ?_) (fun hc64 => ?_)
          · refine lv_iload_n hx hb dJ6_numberOfTrailingZeros_74 rfl (lv_at hl 1 rfl) ?_
            refine lv_iload_n hx hb dJ6_numberOfTrailingZeros_75 rfl (lv_at hl 0 rfl) ?_
            refine lv_iconst (v := 1) hx hb dJ6_numberOfTrailingZeros_76 (by decide) ?_
            refine lv_iushr (v := k_ush (k_ush ((k_not x) &&& (x - 1)) 8) 1) hx hb dJ6_numberOfTrailingZeros_77 rfl ?_
            refine lv_iadd hx hb dJ6_numberOfTrailingZeros_78 ?_
            have hv9 : k_ntz x = (1 + 8) + (k_ush (k_ush ((k_not x) &&& (x - 1)) 8) 1) := by simp [k_ntz, hc9, hc23, hc38, hc52, hc64]
            exact W.iret (v := ((1 + 8) + (k_ush (k_ush ((k_not x) &&& (x - 1)) 8) 1))) hx hb hr (fun t ht hW => ⟨by rw [hv9], ht⟩) (fun _ h => nomatch h) dJ6_numberOfTrailingZeros_79
          · refine lv_iinc (k := 1) (v := (1 + 8) + 2) (lv' := [(1, .int ((1 + 8) + 2)), (0, .int (k_ush ((k_not x) &&& (x - 1)) 8))]) hx hb dJ6_numberOfTrailingZeros_67 hl rfl (by first | rfl | decide) (by decide) rfl (fun ls hl => ?_)
            refine lv_iload_n hx hb dJ6_numberOfTrailingZeros_70 rfl (lv_at hl 1 rfl) ?_
            refine lv_iconst (v := 2) hx hb dJ6_numberOfTrailingZeros_71 (by decide) ?_
            refine lv_iushr (v := k_ush (k_ush ((k_not x) &&& (x - 1)) 8) 2) hx hb dJ6_numberOfTrailingZeros_72 rfl ?_
            refine lv_istore_n (lv' := [(0, .int (k_ush (k_ush ((k_not x) &&& (x - 1)) 8) 2)), (1, .int ((1 + 8) + 2))]) hx hb dJ6_numberOfTrailingZeros_73 rfl hl (by decide) rfl (fun ls hl => ?_)
            refine lv_iload_n hx hb dJ6_numberOfTrailingZeros_74 rfl (lv_at hl 1 rfl) ?_
            refine lv_iload_n hx hb dJ6_numberOfTrailingZeros_75 rfl (lv_at hl 0 rfl) ?_
            refine lv_iconst (v := 1) hx hb dJ6_numberOfTrailingZeros_76 (by decide) ?_
            refine lv_iushr (v := k_ush (k_ush (k_ush ((k_not x) &&& (x - 1)) 8) 2) 1) hx hb dJ6_numberOfTrailingZeros_77 rfl ?_
            refine lv_iadd hx hb dJ6_numberOfTrailingZeros_78 ?_
            have hv9 : k_ntz x = ((1 + 8) + 2) + (k_ush (k_ush (k_ush ((k_not x) &&& (x - 1)) 8) 2) 1) := by simp [k_ntz, hc9, hc23, hc38, hc52, hc64]
            exact W.iret (v := (((1 + 8) + 2) + (k_ush (k_ush (k_ush ((k_not x) &&& (x - 1)) 8) 2) 1))) hx hb hr (fun t ht hW => ⟨by rw [hv9], ht⟩) (fun _ h => nomatch h) dJ6_numberOfTrailingZeros_79
        · refine lv_iinc (k := 1) (v := (1 + 8) + 4) (lv' := [(1, .int ((1 + 8) + 4)), (0, .int (k_ush ((k_not x) &&& (x - 1)) 8))]) hx hb dJ6_numberOfTrailingZeros_55 hl rfl (by first | rfl | decide) (by decide) rfl (fun ls hl => ?_)
          refine lv_iload_n hx hb dJ6_numberOfTrailingZeros_58 rfl (lv_at hl 1 rfl) ?_
          refine lv_iconst (v := 4) hx hb dJ6_numberOfTrailingZeros_59 (by decide) ?_
          refine lv_iushr (v := k_ush (k_ush ((k_not x) &&& (x - 1)) 8) 4) hx hb dJ6_numberOfTrailingZeros_60 rfl ?_
          refine lv_istore_n (lv' := [(0, .int (k_ush (k_ush ((k_not x) &&& (x - 1)) 8) 4)), (1, .int ((1 + 8) + 4))]) hx hb dJ6_numberOfTrailingZeros_61 rfl hl (by decide) rfl (fun ls hl => ?_)
          refine lv_iload_n hx hb dJ6_numberOfTrailingZeros_62 rfl (lv_at hl 0 rfl) ?_
          refine lv_iconst (v := 4) hx hb dJ6_numberOfTrailingZeros_63 (by decide) ?_
          refine lv_icmp_le (tgt := 74) hx hb dJ6_numberOfTrailingZeros_64 (by decide) (fun hc64 => ?_) (fun hc64 => ?_)
          · refine lv_iload_n hx hb dJ6_numberOfTrailingZeros_74 rfl (lv_at hl 1 rfl) ?_
            refine lv_iload_n hx hb dJ6_numberOfTrailingZeros_75 rfl (lv_at hl 0 rfl) ?_
            refine lv_iconst (v := 1) hx hb dJ6_numberOfTrailingZeros_76 (by decide) ?_
            refine lv_iushr (v := k_ush (k_ush (k_ush ((k_not x) &&& (x - 1)) 8) 4) 1) hx hb dJ6_numberOfTrailingZeros_77 rfl ?_
            refine lv_iadd hx hb dJ6_numberOfTrailingZeros_78 ?_
            have hv9 : k_ntz x = ((1 + 8) + 4) + (k_ush (k_ush (k_ush ((k_not x) &&& (x - 1)) 8) 4) 1) := by simp [k_ntz, hc9, hc23, hc38, hc52, hc64]
            exact W.iret (v := (((1 + 8) + 4) + (k_ush (k_ush (k_ush ((k_not x) &&& (x - 1)) 8) 4) 1))) hx hb hr (fun t ht hW => ⟨by rw [hv9], ht⟩) (fun _ h => nomatch h) dJ6_numberOfTrailingZeros_79
          · refine lv_iinc (k := 1) (v := ((1 + 8) + 4) + 2) (lv' := [(1, .int (((1 + 8) + 4) + 2)), (0, .int (k_ush (k_ush ((k_not x) &&& (x - 1)) 8) 4))]) hx hb dJ6_numberOfTrailingZeros_67 hl rfl (by first | rfl | decide) (by decide) rfl (fun ls hl => ?_)
            refine lv_iload_n hx hb dJ6_numberOfTrailingZeros_70 rfl (lv_at hl 1 rfl) ?_
            refine lv_iconst (v := 2) hx hb dJ6_numberOfTrailingZeros_71 (by decide) ?_
            refine lv_iushr (v := k_ush (k_ush (k_ush ((k_not x) &&& (x - 1)) 8) 4) 2) hx hb dJ6_numberOfTrailingZeros_72 rfl ?_
            refine lv_istore_n (lv' := [(0, .int (k_ush (k_ush (k_ush ((k_not x) &&& (x - 1)) 8) 4) 2)), (1, .int (((1 + 8) + 4) + 2))]) hx hb dJ6_numberOfTrailingZeros_73 rfl hl (by decide) rfl (fun ls hl => ?_)
            refine lv_iload_n hx hb dJ6_numberOfTrailingZeros_74 rfl (lv_at hl 1 rfl) ?_
            refine lv_iload_n hx hb dJ6_numberOfTrailingZeros_75 rfl (lv_at hl 0 rfl) ?_
            refine lv_iconst (v := 1) hx hb dJ6_numberOfTrailingZeros_76 (by decide) ?_
            refine lv_iushr (v := k_ush (k_ush (k_ush (k_ush ((k_not x) &&& (x - 1)) 8) 4) 2) 1) hx hb dJ6_numberOfTrailingZeros_77 rfl ?_
            refine lv_iadd hx hb dJ6_numberOfTrailingZeros_78 ?_
            have hv9 : k_ntz x = (((1 + 8) + 4) + 2) + (k_ush (k_ush (k_ush (k_ush ((k_not x) &&& (x - 1)) 8) 4) 2) 1) := by simp [k_ntz, hc9, hc23, hc38, hc52, hc64]
            exact W.iret (v := ((((1 + 8) + 4) + 2) + (k_ush (k_ush (k_ush (k_ush ((k_not x) &&& (x - 1)) 8) 4) 2) 1))) hx hb hr (fun t ht hW => ⟨by rw [hv9], ht⟩) (fun _ h => nomatch h) dJ6_numberOfTrailingZeros_79
    · refine lv_iinc (k := 0) (v := 1 + 16) (lv' := [(1, .int (1 + 16)), (0, .int ((k_not x) &&& (x - 1)))]) hx hb dJ6_numberOfTrailingZeros_26 hl rfl (by first | rfl | decide) (by decide) rfl (fun ls hl => ?_)
      refine lv_iload_n hx hb dJ6_numberOfTrailingZeros_29 rfl (lv_at hl 1 rfl) ?_
      refine lv_bipush (v := 16) hx hb dJ6_numberOfTrailingZeros_30 (by decide) ?_
      refine lv_iushr (v := k_ush ((k_not x) &&& (x - 1)) 16) hx hb dJ6_numberOfTrailingZeros_32 rfl ?_
      refine lv_istore_n (lv' := [(0, .int (k_ush ((k_not x) &&& (x - 1)) 16)), (1, .int (1 + 16))]) hx hb dJ6_numberOfTrailingZeros_33 rfl hl (by decide) rfl (fun ls hl => ?_)
      refine lv_iload_n hx hb dJ6_numberOfTrailingZeros_34 rfl (lv_at hl 0 rfl) ?_
      refine lv_sipush (v := 256) hx hb dJ6_numberOfTrailingZeros_35 (by decide) ?_
      refine lv_icmp_le (tgt := 49) hx hb dJ6_numberOfTrailingZeros_38 (by decide) (fun hc38 => ?_) (fun hc38 => ?_)
      · refine lv_iload_n hx hb dJ6_numberOfTrailingZeros_49 rfl (lv_at hl 0 rfl) ?_
        refine lv_bipush (v := 16) hx hb dJ6_numberOfTrailingZeros_50 (by decide) ?_
        refine lv_icmp_le (tgt := 62) hx hb dJ6_numberOfTrailingZeros_52 (by decide) (fun hc52 => ?_) (fun hc52 => ?_)
        · refine lv_iload_n hx hb dJ6_numberOfTrailingZeros_62 rfl (lv_at hl 0 rfl) ?_
          refine lv_iconst (v := 4) hx hb dJ6_numberOfTrailingZeros_63 (by decide) ?_
          refine lv_icmp_le (tgt := 74) hx hb dJ6_numberOfTrailingZeros_64 (by decide) (fun hc64 => ?_) (fun hc64 => ?_)
          · refine lv_iload_n hx hb dJ6_numberOfTrailingZeros_74 rfl (lv_at hl 1 rfl) ?_
            refine lv_iload_n hx hb dJ6_numberOfTrailingZeros_75 rfl (lv_at hl 0 rfl) ?_
            refine lv_iconst (v := 1) hx hb dJ6_numberOfTrailingZeros_76 (by decide) ?_
            refine lv_iushr (v := k_ush (k_ush ((k_not x) &&& (x - 1)) 16) 1) hx hb dJ6_numberOfTrailingZeros_77 rfl ?_
            refine lv_iadd hx hb dJ6_numberOfTrailingZeros_78 ?_
            have hv9 : k_ntz x = (1 + 16) + (k_ush (k_ush ((k_not x) &&& (x - 1)) 16) 1) := by simp [k_ntz, hc9, hc23, hc38, hc52, hc64]
            exact W.iret (v := ((1 + 16) + (k_ush (k_ush ((k_not x) &&& (x - 1)) 16) 1))) hx hb hr (fun t ht hW => ⟨by rw [hv9], ht⟩) (fun _ h => nomatch h) dJ6_numberOfTrailingZeros_79
          · refine lv_iinc (k := 1) (v := (1 + 16) + 2) (lv' := [(1, .int ((1 + 16) + 2)), (0, .int (k_ush ((k_not x) &&& (x - 1)) 16))]) hx hb dJ6_numberOfTrailingZeros_67 hl rfl (by first | rfl | decide) (by decide) rfl (fun ls hl => ?_)
            refine lv_iload_n hx hb dJ6_numberOfTrailingZeros_70 rfl (lv_at hl 1 rfl) ?_
            refine lv_iconst (v := 2) hx hb dJ6_numberOfTrailingZeros_71 (by decide) ?_
            refine lv_iushr (v := k_ush (k_ush ((k_not x) &&& (x - 1)) 16) 2) hx hb dJ6_numberOfTrailingZeros_72 rfl ?_
            refine lv_istore_n (lv' := [(0, .int (k_ush (k_ush ((k_not x) &&& (x - 1)) 16) 2)), (1, .int ((1 + 16) + 2))]) hx hb dJ6_numberOfTrailingZeros_73 rfl hl (by decide) rfl (fun ls hl => ?_)
            refine lv_iload_n hx hb dJ6_numberOfTrailingZeros_74 rfl (lv_at hl 1 rfl) ?_
            refine lv_iload_n hx hb dJ6_numberOfTrailingZeros_75 rfl (lv_at hl 0 rfl) ?_
            refine lv_iconst (v := 1) hx hb dJ6_numberOfTrailingZeros_76 (by decide) ?_
            refine lv_iushr (v := k_ush (k_ush (k_ush ((k_not x) &&& (x - 1)) 16) 2) 1) hx hb dJ6_numberOfTrailingZeros_77 rfl ?_
            refine lv_iadd hx hb dJ6_numberOfTrailingZeros_78 ?_
            have hv9 : k_ntz x = ((1 + 16) + 2) + (k_ush (k_ush (k_ush ((k_not x) &&& (x - 1)) 16) 2) 1) := by simp [k_ntz, hc9, hc23, hc38, hc52, hc64]
            exact W.iret (v := (((1 + 16) + 2) + (k_ush (k_ush (k_ush ((k_not x) &&& (x - 1)) 16) 2) 1))) hx hb hr (fun t ht hW => ⟨by rw [hv9], ht⟩) (fun _ h => nomatch h) dJ6_numberOfTrailingZeros_79
        · refine lv_iinc (k := 1) (v := (1 + 16) + 4) (lv' := [(1, .int ((1 + 16) + 4)), (0, .int (k_ush ((k_not x) &&& (x - 1)) 16))]) hx hb dJ6_numberOfTrailingZeros_55 hl rfl (by first | rfl | decide) (by decide) rfl (fun ls hl => ?_)
          refine lv_iload_n hx hb dJ6_numberOfTrailingZeros_58 rfl (lv_at hl 1 rfl) ?_
          refine lv_iconst (v := 4) hx hb dJ6_numberOfTrailingZeros_59 (by decide) ?_
          refine lv_iushr (v := k_ush (k_ush ((k_not x) &&& (x - 1)) 16) 4) hx hb dJ6_numberOfTrailingZeros_60 rfl ?_
          refine lv_istore_n (lv' := [(0, .int (k_ush (k_ush ((k_not x) &&& (x - 1)) 16) 4)), (1, .int ((1 + 16) + 4))]) hx hb dJ6_numberOfTrailingZeros_61 rfl hl (by decide) rfl (fun ls hl => ?_)
          refine lv_iload_n hx hb dJ6_numberOfTrailingZeros_62 rfl (lv_at hl 0 rfl) ?_
          refine lv_iconst (v := 4) hx hb dJ6_numberOfTrailingZeros_63 (by decide) ?_
          refine lv_icmp_le (tgt := 74) hx hb dJ6_numberOfTrailingZeros_64 (by decide) (fun hc64 => ?_) (fun hc64 => ?_)
          · refine lv_iload_n hx hb dJ6_numberOfTrailingZeros_74 rfl (lv_at hl 1 rfl) ?_
            refine lv_iload_n hx hb dJ6_numberOfTrailingZeros_75 rfl (lv_at hl 0 rfl) ?_
            refine lv_iconst (v := 1) hx hb dJ6_numberOfTrailingZeros_76 (by decide) ?_
            refine lv_iushr (v := k_ush (k_ush (k_ush ((k_not x) &&& (x - 1)) 16) 4) 1) hx hb dJ6_numberOfTrailingZeros_77 rfl ?_
            refine lv_iadd hx hb dJ6_numberOfTrailingZeros_78 ?_
            have hv9 : k_ntz x = ((1 + 16) + 4) + (k_ush (k_ush (k_ush ((k_not x) &&& (x - 1)) 16) 4) 1) := by simp [k_ntz, hc9, hc23, hc38, hc52, hc64]
            exact W.iret (v := (((1 + 16) + 4) + (k_ush (k_ush (k_ush ((k_not x) &&& (x - 1)) 16) 4) 1))) hx hb hr (fun t ht hW => ⟨by rw [hv9], ht⟩) (fun _ h => nomatch h) dJ6_numberOfTrailingZeros_79
          · refine lv_iinc (k := 1) (v := ((1 + 16) + 4) + 2) (lv' := [(1, .int (((1 + 16) + 4) + 2)), (0, .int (k_ush (k_ush ((k_not x) &&& (x - 1)) 16) 4))]) hx hb dJ6_numberOfTrailingZeros_67 hl rfl (by first | rfl | decide) (by decide) rfl (fun ls hl => ?_)
            refine lv_iload_n hx hb dJ6_numberOfTrailingZeros_70 rfl (lv_at hl 1 rfl) ?_
            refine lv_iconst (v := 2) hx hb dJ6_numberOfTrailingZeros_71 (by decide) ?_
            refine lv_iushr (v := k_ush (k_ush (k_ush ((k_not x) &&& (x - 1)) 16) 4) 2) hx hb dJ6_numberOfTrailingZeros_72 rfl ?_
            refine lv_istore_n (lv' := [(0, .int (k_ush (k_ush (k_ush ((k_not x) &&& (x - 1)) 16) 4) 2)), (1, .int (((1 + 16) + 4) + 2))]) hx hb dJ6_numberOfTrailingZeros_73 rfl hl (by decide) rfl (fun ls hl => ?_)
            refine lv_iload_n hx hb dJ6_numberOfTrailingZeros_74 rfl (lv_at hl 1 rfl) ?_
            refine lv_iload_n hx hb dJ6_numberOfTrailingZeros_75 rfl (lv_at hl 0 rfl) ?_
            refine lv_iconst (v := 1) hx hb dJ6_numberOfTrailingZeros_76 (by decide) ?_
            refine lv_iushr (v := k_ush (k_ush (k_ush (k_ush ((k_not x) &&& (x - 1)) 16) 4) 2) 1) hx hb dJ6_numberOfTrailingZeros_77 rfl ?_
            refine lv_iadd hx hb dJ6_numberOfTrailingZeros_78 ?_
            have hv9 : k_ntz x = (((1 + 16) + 4) + 2) + (k_ush (k_ush (k_ush (k_ush ((k_not x) &&& (x - 1)) 16) 4) 2) 1) := by simp [k_ntz, hc9, hc23, hc38, hc52, hc64]
            exact W.iret (v := ((((1 + 16) + 4) + 2) + (k_ush (k_ush (k_ush (k_ush ((k_not x) &&& (x - 1)) 16) 4) 2) 1))) hx hb hr (fun t ht hW => ⟨by rw [hv9], ht⟩) (fun _ h => nomatch h) dJ6_numberOfTrailingZeros_79
      · refine lv_iinc (k := 1) (v := (1 + 16) + 8) (lv' := [(1, .int ((1 + 16) + 8)), (0, .int (k_ush ((k_not x) &&& (x - 1)) 16))]) hx hb dJ6_numberOfTrailingZeros_41 hl rfl (by first | rfl | decide) (by decide) rfl (fun ls hl => ?_)
        refine lv_iload_n hx hb dJ6_numberOfTrailingZeros_44 rfl (lv_at hl 1 rfl) ?_
        refine lv_bipush (v := 8) hx hb dJ6_numberOfTrailingZeros_45 (by decide) ?_
        refine lv_iushr (v := k_ush (k_ush ((k_not x) &&& (x - 1)) 16) 8) hx hb dJ6_numberOfTrailingZeros_47 rfl ?_
        refine lv_istore_n (lv' := [(0, .int (k_ush (k_ush ((k_not x) &&& (x - 1)) 16) 8)), (1, .int ((1 + 16) + 8))]) hx hb dJ6_numberOfTrailingZeros_48 rfl hl (by decide) rfl (fun ls hl => ?_)
        refine lv_iload_n hx hb dJ6_numberOfTrailingZeros_49 rfl (lv_at hl 0 rfl) ?_
        refine lv_bipush (v := 16) hx hb dJ6_numberOfTrailingZeros_50 (by decide) ?_
        refine lv_icmp_le (tgt := 62) hx hb dJ6_numberOfTrailingZeros_52 (by decide) (fun hc52 => ?_) (fun hc52 => ?_)
        · refine lv_iload_n hx hb dJ6_numberOfTrailingZeros_62 rfl (lv_at hl 0 rfl) ?_
          refine lv_iconst (v := 4) hx hb dJ6_numberOfTrailingZeros_63 (by decide) ?_
          refine lv_icmp_le (tgt := 74) hx hb dJ6_numberOfTrailingZeros_64 (by decide) (fun hc64 => ?_) (fun hc64 => ?_)
          · refine lv_iload_n hx hb dJ6_numberOfTrailingZeros_74 rfl (lv_at hl 1 rfl) ?_
            refine lv_iload_n hx hb dJ6_numberOfTrailingZeros_75 rfl (lv_at hl 0 rfl) ?_
            refine lv_iconst (v := 1) hx hb dJ6_numberOfTrailingZeros_76 (by decide) ?_
            refine lv_iushr (v := k_ush (k_ush (k_ush ((k_not x) &&& (x - 1)) 16) 8) 1) hx hb dJ6_numberOfTrailingZeros_77 rfl ?_
            refine lv_iadd hx hb dJ6_numberOfTrailingZeros_78 ?_
            have hv9 : k_ntz x = ((1 + 16) + 8) + (k_ush (k_ush (k_ush ((k_not x) &&& (x - 1)) 16) 8) 1) := by simp [k_ntz, hc9, hc23, hc38, hc52, hc64]
            exact W.iret (v := (((1 + 16) + 8) + (k_ush (k_ush (k_ush ((k_not x) &&& (x - 1)) 16) 8) 1))) hx hb hr (fun t ht hW => ⟨by rw [hv9], ht⟩) (fun _ h => nomatch h) dJ6_numberOfTrailingZeros_79
          · refine lv_iinc (k := 1) (v := ((1 + 16) + 8) + 2) (lv' := [(1, .int (((1 + 16) + 8) + 2)), (0, .int (k_ush (k_ush ((k_not x) &&& (x - 1)) 16) 8))]) hx hb dJ6_numberOfTrailingZeros_67 hl rfl (by first | rfl | decide) (by decide) rfl (fun ls hl => ?_)
            refine lv_iload_n hx hb dJ6_numberOfTrailingZeros_70 rfl (lv_at hl 1 rfl) ?_
            refine lv_iconst (v := 2) hx hb dJ6_numberOfTrailingZeros_71 (by decide) ?_
            refine lv_iushr (v := k_ush (k_ush (k_ush ((k_not x) &&& (x - 1)) 16) 8) 2) hx hb dJ6_numberOfTrailingZeros_72 rfl ?_
            refine lv_istore_n (lv' := [(0, .int (k_ush (k_ush (k_ush ((k_not x) &&& (x - 1)) 16) 8) 2)), (1, .int (((1 + 16) + 8) + 2))]) hx hb dJ6_numberOfTrailingZeros_73 rfl hl (by decide) rfl (fun ls hl => ?_)
            refine lv_iload_n hx hb dJ6_numberOfTrailingZeros_74 rfl (lv_at hl 1 rfl) ?_
            refine lv_iload_n hx hb dJ6_numberOfTrailingZeros_75 rfl (lv_at hl 0 rfl) ?_
            refine lv_iconst (v := 1) hx hb dJ6_numberOfTrailingZeros_76 (by decide) ?_
            refine lv_iushr (v := k_ush (k_ush (k_ush (k_ush ((k_not x) &&& (x - 1)) 16) 8) 2) 1) hx hb dJ6_numberOfTrailingZeros_77 rfl ?_
            refine lv_iadd hx hb dJ6_numberOfTrailingZeros_78 ?_
            have hv9 : k_ntz x = (((1 + 16) + 8) + 2) + (k_ush (k_ush (k_ush (k_ush ((k_not x) &&& (x - 1)) 16) 8) 2) 1) := by simp [k_ntz, hc9, hc23, hc38, hc52, hc64]
            exact W.iret (v := ((((1 + 16) + 8) + 2) + (k_ush (k_ush (k_ush (k_ush ((k_not x) &&& (x - 1)) 16) 8) 2) 1))) hx hb hr (fun t ht hW => ⟨by rw [hv9], ht⟩) (fun _ h => nomatch h) dJ6_numberOfTrailingZeros_79
        · refine lv_iinc (k := 1) (v := ((1 + 16) + 8) + 4) (lv' := [(1, .int (((1 + 16) + 8) + 4)), (0, .int (k_ush (k_ush ((k_not x) &&& (x - 1)) 16) 8))]) hx hb dJ6_numberOfTrailingZeros_55 hl rfl (by first | rfl | decide) (by decide) rfl (fun ls hl => ?_)
          refine lv_iload_n hx hb dJ6_numberOfTrailingZeros_58 rfl (lv_at hl 1 rfl) ?_
          refine lv_iconst (v := 4) hx hb dJ6_numberOfTrailingZeros_59 (by decide) ?_
          refine lv_iushr (v := k_ush (k_ush (k_ush ((k_not x) &&& (x - 1)) 16) 8) 4) hx hb dJ6_numberOfTrailingZeros_60 rfl ?_
          refine lv_istore_n (lv' := [(0, .int (k_ush (k_ush (k_ush ((k_not x) &&& (x - 1)) 16) 8) 4)), (1, .int (((1 + 16) + 8) + 4))]) hx hb dJ6_numberOfTrailingZeros_61 rfl hl (by decide) rfl (fun ls hl => ?_)
          refine lv_iload_n hx hb dJ6_numberOfTrailingZeros_62 rfl (lv_at hl 0 rfl) ?_
          refine lv_iconst (v := 4) hx hb dJ6_numberOfTrailingZeros_63 (by decide) ?_
          refine lv_icmp_le (tgt := 74) hx hb dJ6_numberOfTrailingZeros_64 (by decide) (fun hc64 => ?_) (fun hc64 => ?_)
          · refine lv_iload_n hx hb dJ6_numberOfTrailingZeros_74 rfl (lv_at hl 1 rfl) ?_
            refine lv_iload_n hx hb dJ6_numberOfTrailingZeros_75 rfl (lv_at hl 0 rfl) ?_
            refine lv_iconst (v := 1) hx hb dJ6_numberOfTrailingZeros_76 (by decide) ?_
            refine lv_iushr (v := k_ush (k_ush (k_ush (k_ush ((k_not x) &&& (x - 1)) 16) 8) 4) 1) hx hb dJ6_numberOfTrailingZeros_77 rfl ?_
            refine lv_iadd hx hb dJ6_numberOfTrailingZeros_78 ?_
            have hv9 : k_ntz x = (((1 + 16) + 8) + 4) + (k_ush (k_ush (k_ush (k_ush ((k_not x) &&& (x - 1)) 16) 8) 4) 1) := by simp [k_ntz, hc9, hc23, hc38, hc52, hc64]
            exact W.iret (v := ((((1 + 16) + 8) + 4) + (k_ush (k_ush (k_ush (k_ush ((k_not x) &&& (x - 1)) 16) 8) 4) 1))) hx hb hr (fun t ht hW => ⟨by rw [hv9], ht⟩) (fun _ h => nomatch h) dJ6_numberOfTrailingZeros_79
          · refine lv_iinc (k := 1) (v := (((1 + 16) + 8) + 4) + 2) (lv' := [(1, .int ((((1 + 16) + 8) + 4) + 2)), (0, .int (k_ush (k_ush (k_ush ((k_not x) &&& (x - 1)) 16) 8) 4))]) hx hb dJ6_numberOfTrailingZeros_67 hl rfl (by first | rfl | decide) (by decide) rfl (fun ls hl => ?_)
            refine lv_iload_n hx hb dJ6_numberOfTrailingZeros_70 rfl (lv_at hl 1 rfl) ?_
            refine lv_iconst (v := 2) hx hb dJ6_numberOfTrailingZeros_71 (by decide) ?_
            refine lv_iushr (v := k_ush (k_ush (k_ush (k_ush ((k_not x) &&& (x - 1)) 16) 8) 4) 2) hx hb dJ6_numberOfTrailingZeros_72 rfl ?_
            refine lv_istore_n (lv' := [(0, .int (k_ush (k_ush (k_ush (k_ush ((k_not x) &&& (x - 1)) 16) 8) 4) 2)), (1, .int ((((1 + 16) + 8) + 4) + 2))]) hx hb dJ6_numberOfTrailingZeros_73 rfl hl (by decide) rfl (fun ls hl => ?_)
            refine lv_iload_n hx hb dJ6_numberOfTrailingZeros_74 rfl (lv_at hl 1 rfl) ?_
            refine lv_iload_n hx hb dJ6_numberOfTrailingZeros_75 rfl (lv_at hl 0 rfl) ?_
            refine lv_iconst (v := 1) hx hb dJ6_numberOfTrailingZeros_76 (by decide) ?_
            refine lv_iushr (v := k_ush (k_ush (k_ush (k_ush (k_ush ((k_not x) &&& (x - 1)) 16) 8) 4) 2) 1) hx hb dJ6_numberOfTrailingZeros_77 rfl ?_
            refine lv_iadd hx hb dJ6_numberOfTrailingZeros_78 ?_
            have hv9 : k_ntz x = ((((1 + 16) + 8) + 4) + 2) + (k_ush (k_ush (k_ush (k_ush (k_ush ((k_not x) &&& (x - 1)) 16) 8) 4) 2) 1) := by simp [k_ntz, hc9, hc23, hc38, hc52, hc64]
            exact W.iret (v := (((((1 + 16) + 8) + 4) + 2) + (k_ush (k_ush (k_ush (k_ush (k_ush ((k_not x) &&& (x - 1)) 16) 8) 4) 2) 1))) hx hb hr (fun t ht hW => ⟨by rw [hv9], ht⟩) (fun _ h => nomatch h) dJ6_numberOfTrailingZeros_79
  · refine lv_iload_n hx hb dJ6_numberOfTrailingZeros_12 rfl (lv_at hl 0 rfl) ?_
    refine lv_bipush (v := 32) hx hb dJ6_numberOfTrailingZeros_13 (by decide) ?_
    refine lv_iand hx hb dJ6_numberOfTrailingZeros_15 ?_
    have hv9 : k_ntz x = ((k_not x) &&& (x - 1)) &&& 32 := by simp [k_ntz, hc9]
    exact W.iret (v := (((k_not x) &&& (x - 1)) &&& 32)) hx hb hr (fun t ht hW => ⟨by rw [hv9], ht⟩) (fun _ h => nomatch h) dJ6_numberOfTrailingZeros_16

set_option maxHeartbeats 4000000 in
set_option maxRecDepth 100000 in
theorem kX0_isSingle (l : Launch) (x : Int32) : xs_M l yX0_isSingle wsX0_isSingle ({ frames := 1, cells := 0, slots := 0, locals := 20 }) [.int x] (k_b (k_sing x)) := by
  refine Met.ofW (cc := cX0_isSingle) (maxL := 1) (ret := (some .boolean)) (by decide) rfl ?_
  intro p e s m args below meth c s₁ B hml hv
  subst hv
  have hx := B.exec
  have hb := B.bytes
  have hr := B.returns
  have hts := atoms_spec (ws := wsX0_isSingle) B.pre
  have hown : s.vm.findClass RX0 = some m.cls := findClass_of_methodNamed B.named
  have hlocks := B.notSynchronized
  have hl := lv_entry ([.int x]) (n := 1) (Nat.le_of_ble_eq_true rfl)
  rw [lg_entry_eq]
  generalize (lg_sl ([.int x]) ++ List.replicate (1 - (lg_sl ([.int x])).length) Slot.unset).toArray = ls at hl ⊢
  have hl : lv_has ls 1 [(0, .int x)] := hl
  refine lv_iload_n hx hb dX0_isSingle_0 rfl (lv_at hl 0 rfl) ?_
  refine xc_s (As := [.int x]) (rest := []) ⟨hx, hb, hml, hown, hts⟩ (kJ6_bitCount l x) (va_cwS 1 hts (gd_S bw_103 bw_104 bw_7 bw_105) rfl rfl rfl (by decide +kernel) ⟨Nat.le_of_ble_eq_true rfl, Nat.le_of_ble_eq_true rfl⟩) rfl hl.1 rfl (Nat.le_of_ble_eq_true rfl) dX0_isSingle_1 ⟨Nat.zero_le _, Nat.zero_le _⟩ ?_
  refine lv_iconst (v := 1) hx hb dX0_isSingle_4 (by decide) ?_
  refine lv_icmp_ne (tgt := 12) hx hb dX0_isSingle_5 (by decide) (fun hc5 => ?_) (fun hc5 => ?_)
  · refine lv_iconst (v := 0) hx hb dX0_isSingle_12 (by decide) ?_
    have hv9 : k_b (k_sing x) = 0 := by simp [k_b, k_sing, hc5]
    exact W.zret (v := 0) hx hb hr (by rfl) (fun t ht hW => ⟨by rw [hv9], ht⟩) (fun _ h => nomatch h) dX0_isSingle_13
  · refine lv_iconst (v := 1) hx hb dX0_isSingle_8 (by decide) ?_
    refine lv_goto (tgt := 13) hx hb dX0_isSingle_9 (by decide) ?_
    have hv9 : k_b (k_sing x) = 1 := by simp [k_b, k_sing, hc5]
    exact W.zret (v := 1) hx hb hr (by rfl) (fun t ht hW => ⟨by rw [hv9], ht⟩) (fun _ h => nomatch h) dX0_isSingle_13

set_option maxHeartbeats 4000000 in
set_option maxRecDepth 100000 in
theorem kX0_strengthenedLiteral (l : Launch) (c9 : Int32) (d9 : Int32) : xs_M l yX0_strengthenedLiteral wsX0_strengthenedLiteral ({ frames := 2, cells := 0, slots := 0, locals := 40 }) [.int c9, .int d9] (k_sl c9 d9) := by
  refine Met.ofW (cc := cX0_strengthenedLiteral) (maxL := 3) (ret := (some .int)) (by decide) rfl ?_
  intro p e s m args below meth c s₁ B hml hv
  subst hv
  have hx := B.exec
  have hb := B.bytes
  have hr := B.returns
  have hts := atoms_spec (ws := wsX0_strengthenedLiteral) B.pre
  have hown : s.vm.findClass RX0 = some m.cls := findClass_of_methodNamed B.named
  have hlocks := B.notSynchronized
  have hl := lv_entry ([.int c9, .int d9]) (n := 3) (Nat.le_of_ble_eq_true rfl)
  rw [lg_entry_eq]
  generalize (lg_sl ([.int c9, .int d9]) ++ List.replicate (3 - (lg_sl ([.int c9, .int d9])).length) Slot.unset).toArray = ls at hl ⊢
  have hl : lv_has ls 3 [(0, .int c9), (1, .int d9)] := hl
  refine lv_iload_n hx hb dX0_strengthenedLiteral_0 rfl (lv_at hl 1 rfl) ?_
  refine lv_iload_n hx hb dX0_strengthenedLiteral_1 rfl (lv_at hl 0 rfl) ?_
  refine lv_iconst (v := (-1)) hx hb dX0_strengthenedLiteral_2 (by decide) ?_
  refine xi_not hx hb dX0_strengthenedLiteral_3 ?_
  refine lv_iand hx hb dX0_strengthenedLiteral_4 ?_
  refine lv_istore_n (lv' := [(2, .int (d9 &&& (k_not c9))), (0, .int c9), (1, .int d9)]) hx hb dX0_strengthenedLiteral_5 rfl hl (by decide) rfl (fun ls hl => ?_)
  refine lv_iload_n hx hb dX0_strengthenedLiteral_6 rfl (lv_at hl 0 rfl) ?_
  refine xc_s (As := [.int (d9 &&& (k_not c9))]) (rest := []) ⟨hx, hb, hml, hown, hts⟩ (kX0_isSingle l (d9 &&& (k_not c9))) (va_cwS 1 hts (gd_S bw_146 bw_147 bw_1 bw_148) rfl rfl rfl (by decide +kernel) ⟨Nat.le_of_ble_eq_true rfl, Nat.le_of_ble_eq_true rfl⟩) rfl hl.1 rfl (Nat.le_of_ble_eq_true rfl) dX0_strengthenedLiteral_7 ⟨Nat.zero_le _, Nat.zero_le _⟩ ?_
  refine lv_if_eq (tgt := 22) hx hb dX0_strengthenedLiteral_10 (by decide) (fun hc10 => ?_) (fun hc10 => ?_)
  · have h1 : k_sing (d9 &&& k_not c9) = false := kb_0.mp hc10
    refine lv_iconst (v := 0) hx hb dX0_strengthenedLiteral_22 (by decide) ?_
    have hv9 : k_sl c9 d9 = 0 := by simp [k_sl, h1]
    exact W.iret (v := 0) hx hb hr (fun t ht hW => ⟨by rw [hv9], ht⟩) (fun _ h => nomatch h) dX0_strengthenedLiteral_23
  · have h1 : k_sing (d9 &&& k_not c9) = true := kb_n0.mp hc10
    refine lv_iload_n hx hb dX0_strengthenedLiteral_13 rfl (lv_at hl 0 rfl) ?_
    refine xc_s (As := [.int (d9 &&& (k_not c9))]) (rest := []) ⟨hx, hb, hml, hown, hts⟩ (kX0_contrary l (d9 &&& (k_not c9))) (va_cwS 1 hts (gd_S bw_155 bw_156 bw_1 bw_157) rfl rfl rfl (by decide +kernel) ⟨Nat.le_of_ble_eq_true rfl, Nat.le_of_ble_eq_true rfl⟩) rfl hl.1 rfl (Nat.le_of_ble_eq_true rfl) dX0_strengthenedLiteral_14 ⟨Nat.zero_le _, Nat.zero_le _⟩ ?_
    refine lv_iload_n hx hb dX0_strengthenedLiteral_17 rfl (lv_at hl 1 rfl) ?_
    refine lv_iand hx hb dX0_strengthenedLiteral_18 ?_
    refine lv_goto (tgt := 23) hx hb dX0_strengthenedLiteral_19 (by decide) ?_
    have hv9 : k_sl c9 d9 = (k_con (d9 &&& (k_not c9))) &&& c9 := by simp [k_sl, h1]
    exact W.iret (v := ((k_con (d9 &&& (k_not c9))) &&& c9)) hx hb hr (fun t ht hW => ⟨by rw [hv9], ht⟩) (fun _ h => nomatch h) dX0_strengthenedLiteral_23

set_option maxHeartbeats 4000000 in
set_option maxRecDepth 100000 in
theorem kX0_countWith (l : Launch) (D : va_G) (q : Nat → Nat) (cA : ClassId) (S : XS) (hok : okX S) (x : Int32) : xr_M l yX0_countWith wsX0_countWith ({ frames := 0, cells := 0, slots := 0, locals := 0 }) D vwCl [(cA, .int)] [.ref (q 0), .int x] (wX q cA S) (nI (q_cw (vXL S) x)) := by
  refine Met.ofW (cc := cX0_countWith) (maxL := 4) (ret := (some .int)) (by decide) rfl ?_
  intro p e s m args below meth c s₁ B hml hv
  obtain ⟨rfl, hP, hK⟩ := hv
  obtain ⟨hn40, hh200, hg100⟩ := id hok
  have hx := B.exec
  have hb := B.bytes
  have hr := B.returns
  have hts := atoms_spec (ws := wsX0_countWith) B.pre
  have hown : s.vm.findClass RX0 = some m.cls := findClass_of_methodNamed B.named
  have hlocks := B.notSynchronized
  have hinX0 : ∀ w ∈ u_ws RX0 TX0 12, w ∈ wsX0_countWith := fun w h => List.mem_cons_of_mem _ (bw_X0 w h)
  have hf9 := hts _ (List.mem_cons_of_mem _ bw_21)
  have hf58 := hts _ (List.mem_cons_of_mem _ bw_23)
  have hl := lv_entry ([.ref (q 0), .int x]) (n := 4) (Nat.le_of_ble_eq_true rfl)
  rw [lg_entry_eq]
  generalize (lg_sl ([.ref (q 0), .int x]) ++ List.replicate (4 - (lg_sl ([.ref (q 0), .int x])).length) Slot.unset).toArray = ls at hl ⊢
  have hl : lv_has ls 4 [(0, .ref (q 0)), (1, .int x)] := hl
  refine lv_iconst (v := 0) hx hb dX0_countWith_0 (by decide) ?_
  refine lv_istore_n (lv' := [(2, .int 0), (0, .ref (q 0)), (1, .int x)]) hx hb dX0_countWith_1 rfl hl (by decide) rfl (fun ls hl => ?_)
  refine lv_iconst (v := 0) hx hb dX0_countWith_2 (by decide) ?_
  refine lv_istore_n (lv' := [(3, .int 0), (2, .int 0), (0, .ref (q 0)), (1, .int x)]) hx hb dX0_countWith_3 rfl hl (by decide) rfl (fun ls hl => ?_)
  refine wlr (σ := Nat × Nat) (fun (x9 : Nat × Nat) ls => match x9 with | (k, a) => lv_has ls 4 [(3, .int (nI k)), (2, .int (nI a)), (0, .ref (q 0)), (1, .int x)] ∧ k ≤ xn S ∧ a ≤ k ∧ q_ct (fun k => (q_set (vXL S) k &&& x) != 0) (xn S - 0) 0 0 = q_ct (fun k => (q_set (vXL S) k &&& x) != 0) (xn S - k) k a) (fun (x9 : Nat × Nat) => match x9 with | (k, a) => xn S - k) (0, 0) ⟨lv_sub hl [0, 1, 2, 3] rfl, (Nat.zero_le _), (Nat.zero_le _), rfl⟩ ?_
  intro x9 ls hI ih4
  obtain ⟨k, a⟩ := x9
  obtain ⟨hl, hk, ha, hq⟩ := hI
  have hl : lv_has ls 4 [(3, .int (nI k)), (2, .int (nI a)), (0, .ref (q 0)), (1, .int x)] := hl
  refine lv_iload_n hx hb dX0_countWith_4 rfl (lv_at hl 0 rfl) ?_
  refine lv_aload_n hx hb dX0_countWith_5 rfl (lv_at hl 2 rfl) ?_
  refine va_get (v := .int (nI (xn S))) hx hb hts hinX0 hown hK hP 0 rfl rfl 4 (by decide) hf58 (fun _ h9 => h9) rfl dX0_countWith_6 ?_
  refine lv_icmp_ge (tgt := 32) hx hb dX0_countWith_9 (by decide) (fun hc9 => ?_) (fun hc9 => ?_)
  · have hge : xn S ≤ k := (nI_leI (by omega) (by omega)).mp hc9
    refine lv_iload_n hx hb dX0_countWith_32 rfl (lv_at hl 1 rfl) ?_
    have hv9 : nI (q_cw (vXL S) x) = nI a := by rw [show q_cw (vXL S) x = q_ct (fun k => (q_set (vXL S) k &&& x) != 0) (xn S - 0) 0 0 from by unfold q_cw; rw [cl_of_len]; rfl, hq, q_ct_end hge]
    exact W.iret (v := (nI a)) hx hb hr (fun t ht hW => ⟨by rw [hv9], ht⟩) (fun _ h => nomatch h) dX0_countWith_33
  · have hlt : k < xn S := Nat.lt_of_not_le (fun z => hc9 ((nI_leI (by omega) (by omega)).mpr z))
    have hs : q_set (vXL S) k = xse S k := q_set_of hlt
    refine lv_aload_n hx hb dX0_countWith_12 rfl (lv_at hl 2 rfl) ?_
    refine va_get (v := .ref (q 1)) hx hb hts hinX0 hown hK hP 0 rfl rfl 2 (by decide) hf9 (fun _ h9 => h9) rfl dX0_countWith_13 ?_
    refine lv_iload_n hx hb dX0_countWith_16 rfl (lv_at hl 0 rfl) ?_
    refine xa_ld hx hb hK hP 1 0 rfl rfl k (by omega) (by first | decide | assumption) dX0_countWith_17 ?_
    refine lv_iload_n hx hb dX0_countWith_18 rfl (lv_at hl 3 rfl) ?_
    refine lv_iand hx hb dX0_countWith_19 ?_
    refine lv_if_eq (tgt := 26) hx hb dX0_countWith_20 (by decide) (fun hc20 => ?_) (fun hc20 => ?_)
    · refine lv_iinc (k := 0) (v := nI (k + 1)) (lv' := [(3, .int (nI (k + 1))), (2, .int (nI a)), (0, .ref (q 0)), (1, .int x)]) hx hb dX0_countWith_26 hl rfl (ii_1 _) (by decide) rfl (fun ls hl => ?_)
      refine lv_goto (tgt := 4) hx hb dX0_countWith_29 (by decide) ?_
      exact ih4 (k + 1, a) _ ⟨lv_sub hl [0, 1, 2, 3] rfl, (by omega), (by omega), hq.trans (q_ct_f hlt (by simp [hc20, hs]))⟩ (by show xn S - (k + 1) < xn S - k; omega)
    · refine lv_iinc (k := 1) (v := nI (a + 1)) (lv' := [(2, .int (nI (a + 1))), (3, .int (nI k)), (0, .ref (q 0)), (1, .int x)]) hx hb dX0_countWith_23 hl rfl (ii_1 _) (by decide) rfl (fun ls hl => ?_)
      refine lv_iinc (k := 1) (v := nI (k + 1)) (lv' := [(3, .int (nI (k + 1))), (2, .int (nI (a + 1))), (0, .ref (q 0)), (1, .int x)]) hx hb dX0_countWith_26 hl rfl (ii_1 _) (by decide) rfl (fun ls hl => ?_)
      refine lv_goto (tgt := 4) hx hb dX0_countWith_29 (by decide) ?_
      exact ih4 (k + 1, a + 1) _ ⟨lv_sub hl [0, 1, 2, 3] rfl, (by omega), (by omega), hq.trans (q_ct_t hlt (by simp [hc20, hs]))⟩ (by show xn S - (k + 1) < xn S - k; omega)

set_option maxHeartbeats 4000000 in
set_option maxRecDepth 100000 in
theorem kX0_countFalse_c (l : Launch) (D : va_G) (q : Nat → Nat) (cA : ClassId) (S : XS) (hok : okX S) : xr_M l yX0_countFalse wsX0_countFalse ({ frames := 1, cells := 0, slots := 0, locals := 20 }) D vwCl [(cA, .int)] [.ref (q 0), .ref (q 1), .int (nI (xn S))] (wX q cA S) (nI (q_ct (fun k => (xse S k &&& k_tl (xt S)) == 0) (xn S) 0 0)) := by
  refine Met.ofW (cc := cX0_countFalse) (maxL := 6) (ret := (some .int)) (by decide) rfl ?_
  intro p e s m args below meth c s₁ B hml hv
  obtain ⟨rfl, hP, hK⟩ := hv
  obtain ⟨hn40, hh200, hg100⟩ := id hok
  have hx := B.exec
  have hb := B.bytes
  have hr := B.returns
  have hts := atoms_spec (ws := wsX0_countFalse) B.pre
  have hown : s.vm.findClass RX0 = some m.cls := findClass_of_methodNamed B.named
  have hlocks := B.notSynchronized
  have hinX0 : ∀ w ∈ u_ws RX0 TX0 12, w ∈ wsX0_countFalse := fun w h => List.mem_cons_of_mem _ (bw_X0 w h)
  have hf184 := hts _ (List.mem_cons_of_mem _ bw_20)
  have hl := lv_entry ([.ref (q 0), .ref (q 1), .int (nI (xn S))]) (n := 6) (Nat.le_of_ble_eq_true rfl)
  rw [lg_entry_eq]
  generalize (lg_sl ([.ref (q 0), .ref (q 1), .int (nI (xn S))]) ++ List.replicate (6 - (lg_sl ([.ref (q 0), .ref (q 1), .int (nI (xn S))])).length) Slot.unset).toArray = ls at hl ⊢
  have hl : lv_has ls 6 [(0, .ref (q 0)), (1, .ref (q 1)), (2, .int (nI (xn S)))] := hl
  refine lv_aload_n hx hb dX0_countFalse_0 rfl (lv_at hl 0 rfl) ?_
  refine va_get (v := .int (xt S)) hx hb hts hinX0 hown hK hP 0 rfl rfl 1 (by decide) hf184 (fun _ h9 => h9) rfl dX0_countFalse_1 ?_
  refine xc_s (As := [.int (xt S)]) (rest := []) ⟨hx, hb, hml, hown, hts⟩ (kX0_trueLiterals l (xt S)) (va_cwS 1 hts (gd_S bw_48 bw_49 bw_1 bw_50) rfl rfl rfl (by decide +kernel) ⟨Nat.le_of_ble_eq_true rfl, Nat.le_of_ble_eq_true rfl⟩) rfl hl.1 rfl (Nat.le_of_ble_eq_true rfl) dX0_countFalse_4 ⟨Nat.zero_le _, Nat.zero_le _⟩ ?_
  refine lv_istore_n (lv' := [(3, .int (k_tl (xt S))), (0, .ref (q 0)), (1, .ref (q 1)), (2, .int (nI (xn S)))]) hx hb dX0_countFalse_7 rfl hl (by decide) rfl (fun ls hl => ?_)
  refine lv_iconst (v := 0) hx hb dX0_countFalse_8 (by decide) ?_
  refine lv_istore (lv' := [(4, .int 0), (3, .int (k_tl (xt S))), (0, .ref (q 0)), (1, .ref (q 1)), (2, .int (nI (xn S)))]) hx hb dX0_countFalse_9 hl (by decide) rfl (fun ls hl => ?_)
  refine lv_iconst (v := 0) hx hb dX0_countFalse_11 (by decide) ?_
  refine lv_istore (lv' := [(5, .int 0), (4, .int 0), (3, .int (k_tl (xt S))), (0, .ref (q 0)), (1, .ref (q 1)), (2, .int (nI (xn S)))]) hx hb dX0_countFalse_12 hl (by decide) rfl (fun ls hl => ?_)
  refine wlr (σ := Nat × Nat) (fun (x9 : Nat × Nat) ls => match x9 with | (k, a) => lv_has ls 6 [(5, .int (nI k)), (4, .int (nI a)), (3, .int (k_tl (xt S))), (0, .ref (q 0)), (1, .ref (q 1)), (2, .int (nI (xn S)))] ∧ k ≤ xn S ∧ a ≤ k ∧ q_ct (fun k => (xse S k &&& k_tl (xt S)) == 0) (xn S - 0) 0 0 = q_ct (fun k => (xse S k &&& k_tl (xt S)) == 0) (xn S - k) k a) (fun (x9 : Nat × Nat) => match x9 with | (k, a) => xn S - k) (0, 0) ⟨lv_sub hl [0, 1, 2, 3, 4, 5] rfl, (Nat.zero_le _), (Nat.zero_le _), rfl⟩ ?_
  intro x9 ls hI ih14
  obtain ⟨k, a⟩ := x9
  obtain ⟨hl, hk, ha, hq⟩ := hI
  have hl : lv_has ls 6 [(5, .int (nI k)), (4, .int (nI a)), (3, .int (k_tl (xt S))), (0, .ref (q 0)), (1, .ref (q 1)), (2, .int (nI (xn S)))] := hl
  refine lv_iload hx hb dX0_countFalse_14 (lv_at hl 0 rfl) ?_
  refine lv_iload_n hx hb dX0_countFalse_16 rfl (lv_at hl 5 rfl) ?_
  refine lv_icmp_ge (tgt := 38) hx hb dX0_countFalse_17 (by decide) (fun hc17 => ?_) (fun hc17 => ?_)
  · have hge : xn S ≤ k := (nI_leI (by omega) (by omega)).mp hc17
    refine lv_iload hx hb dX0_countFalse_38 (lv_at hl 1 rfl) ?_
    have hv9 : nI (q_ct (fun k => (xse S k &&& k_tl (xt S)) == 0) (xn S) 0 0) = nI a := by rw [show q_ct (fun k => (xse S k &&& k_tl (xt S)) == 0) (xn S) 0 0 = q_ct (fun k => (xse S k &&& k_tl (xt S)) == 0) (xn S - 0) 0 0 from rfl, hq, q_ct_end hge]
    exact W.iret (v := (nI a)) hx hb hr (fun t ht hW => ⟨by rw [hv9], ht⟩) (fun _ h => nomatch h) dX0_countFalse_40
  · have hlt : k < xn S := Nat.lt_of_not_le (fun z => hc17 ((nI_leI (by omega) (by omega)).mpr z))
    refine lv_aload_n hx hb dX0_countFalse_20 rfl (lv_at hl 4 rfl) ?_
    refine lv_iload hx hb dX0_countFalse_21 (lv_at hl 0 rfl) ?_
    refine xa_ld hx hb hK hP 1 0 rfl rfl k (by omega) (by first | decide | assumption) dX0_countFalse_23 ?_
    refine lv_iload_n hx hb dX0_countFalse_24 rfl (lv_at hl 2 rfl) ?_
    refine lv_iand hx hb dX0_countFalse_25 ?_
    refine lv_if_ne (tgt := 32) hx hb dX0_countFalse_26 (by decide) (fun hc26 => ?_) (fun hc26 => ?_)
    · refine lv_iinc (k := 0) (v := nI (k + 1)) (lv' := [(5, .int (nI (k + 1))), (4, .int (nI a)), (3, .int (k_tl (xt S))), (0, .ref (q 0)), (1, .ref (q 1)), (2, .int (nI (xn S)))]) hx hb dX0_countFalse_32 hl rfl (ii_1 _) (by decide) rfl (fun ls hl => ?_)
      refine lv_goto (tgt := 14) hx hb dX0_countFalse_35 (by decide) ?_
      exact ih14 (k + 1, a) _ ⟨lv_sub hl [0, 1, 2, 3, 4, 5] rfl, (by omega), (by omega), hq.trans (q_ct_f hlt (by simp [hc26]))⟩ (by show xn S - (k + 1) < xn S - k; omega)
    · refine lv_iinc (k := 1) (v := nI (a + 1)) (lv' := [(4, .int (nI (a + 1))), (5, .int (nI k)), (3, .int (k_tl (xt S))), (0, .ref (q 0)), (1, .ref (q 1)), (2, .int (nI (xn S)))]) hx hb dX0_countFalse_29 hl rfl (ii_1 _) (by decide) rfl (fun ls hl => ?_)
      refine lv_iinc (k := 1) (v := nI (k + 1)) (lv' := [(5, .int (nI (k + 1))), (4, .int (nI (a + 1))), (3, .int (k_tl (xt S))), (0, .ref (q 0)), (1, .ref (q 1)), (2, .int (nI (xn S)))]) hx hb dX0_countFalse_32 hl rfl (ii_1 _) (by decide) rfl (fun ls hl => ?_)
      refine lv_goto (tgt := 14) hx hb dX0_countFalse_35 (by decide) ?_
      exact ih14 (k + 1, a + 1) _ ⟨lv_sub hl [0, 1, 2, 3, 4, 5] rfl, (by omega), (by omega), hq.trans (q_ct_t hlt (by simp [hc26]))⟩ (by show xn S - (k + 1) < xn S - k; omega)

set_option maxHeartbeats 4000000 in
set_option maxRecDepth 100000 in
theorem kX0_failing (l : Launch) (D : va_G) (q : Nat → Nat) (cA : ClassId) (S : XS) (hok : okX S) : xr_M l yX0_failing wsX0_failing ({ frames := 2, cells := 0, slots := 0, locals := 45 }) D vwCl [(cA, .int)] [.ref (q 0)] (wX q cA S) (nI (q_ct (fun k => (xse S k &&& k_tl (xt S)) == 0) (xn S) 0 0)) := by
  refine Met.ofW (cc := cX0_failing) (maxL := 1) (ret := (some .int)) (by decide) rfl ?_
  intro p e s m args below meth c s₁ B hml hv
  obtain ⟨rfl, hP, hK⟩ := hv
  obtain ⟨hn40, hh200, hg100⟩ := id hok
  have hx := B.exec
  have hb := B.bytes
  have hr := B.returns
  have hts := atoms_spec (ws := wsX0_failing) B.pre
  have hown : s.vm.findClass RX0 = some m.cls := findClass_of_methodNamed B.named
  have hlocks := B.notSynchronized
  have hinX0 : ∀ w ∈ u_ws RX0 TX0 12, w ∈ wsX0_failing := fun w h => List.mem_cons_of_mem _ (bw_X0 w h)
  have hf9 := hts _ (List.mem_cons_of_mem _ bw_21)
  have hf58 := hts _ (List.mem_cons_of_mem _ bw_23)
  have hl := lv_entry ([.ref (q 0)]) (n := 1) (Nat.le_of_ble_eq_true rfl)
  rw [lg_entry_eq]
  generalize (lg_sl ([.ref (q 0)]) ++ List.replicate (1 - (lg_sl ([.ref (q 0)])).length) Slot.unset).toArray = ls at hl ⊢
  have hl : lv_has ls 1 [(0, .ref (q 0))] := hl
  refine lv_aload_n hx hb dX0_failing_0 rfl (lv_at hl 0 rfl) ?_
  refine lv_aload_n hx hb dX0_failing_1 rfl (lv_at hl 0 rfl) ?_
  refine va_get (v := .ref (q 1)) hx hb hts hinX0 hown hK hP 0 rfl rfl 2 (by decide) hf9 (fun _ h9 => h9) rfl dX0_failing_2 ?_
  refine lv_aload_n hx hb dX0_failing_5 rfl (lv_at hl 0 rfl) ?_
  refine va_get (v := .int (nI (xn S))) hx hb hts hinX0 hown hK hP 0 rfl rfl 4 (by decide) hf58 (fun _ h9 => h9) rfl dX0_failing_6 ?_
  refine xc_rv (As := [.ref (q 1), .int (nI (xn S))]) (rest := []) ⟨hx, hb, hml, hown, hts⟩ (kX0_countFalse_c l D q cA S hok) (cwV 2 hts (gd_V bw_69 bw_70 bw_411 bw_1 bw_71) rfl rfl rfl (by decide +kernel) ⟨Nat.le_of_ble_eq_true rfl, Nat.le_of_ble_eq_true rfl⟩) (va_recv (ci := 0) (q0 := 0) hK hP rfl rfl) hP hK rfl hl.1 rfl (Nat.le_of_ble_eq_true rfl) dX0_failing_9 ⟨Nat.zero_le _, Nat.zero_le _⟩ ?_
  exact W.iret (v := (nI (q_ct (fun k => (xse S k &&& k_tl (xt S)) == 0) (xn S) 0 0))) hx hb hr (fun t ht hW => ⟨rfl, ht⟩) (fun _ h => nomatch h) dX0_failing_12

set_option maxHeartbeats 4000000 in
set_option maxRecDepth 100000 in
theorem kX0_countFalse_g (l : Launch) (D : va_G) (q : Nat → Nat) (cA : ClassId) (S : XS) (hok : okX S) : xr_M l yX0_countFalse wsX0_countFalse ({ frames := 1, cells := 0, slots := 0, locals := 20 }) D vwCl [(cA, .int)] [.ref (q 0), .ref (q 5), .int (nI (xg S))] (wX q cA S) (nI (q_ct (fun k => (xgi S k &&& k_tl (xt S)) == 0) (xg S) 0 0)) := by
  refine Met.ofW (cc := cX0_countFalse) (maxL := 6) (ret := (some .int)) (by decide) rfl ?_
  intro p e s m args below meth c s₁ B hml hv
  obtain ⟨rfl, hP, hK⟩ := hv
  obtain ⟨hn40, hh200, hg100⟩ := id hok
  have hx := B.exec
  have hb := B.bytes
  have hr := B.returns
  have hts := atoms_spec (ws := wsX0_countFalse) B.pre
  have hown : s.vm.findClass RX0 = some m.cls := findClass_of_methodNamed B.named
  have hlocks := B.notSynchronized
  have hinX0 : ∀ w ∈ u_ws RX0 TX0 12, w ∈ wsX0_countFalse := fun w h => List.mem_cons_of_mem _ (bw_X0 w h)
  have hf184 := hts _ (List.mem_cons_of_mem _ bw_20)
  have hl := lv_entry ([.ref (q 0), .ref (q 5), .int (nI (xg S))]) (n := 6) (Nat.le_of_ble_eq_true rfl)
  rw [lg_entry_eq]
  generalize (lg_sl ([.ref (q 0), .ref (q 5), .int (nI (xg S))]) ++ List.replicate (6 - (lg_sl ([.ref (q 0), .ref (q 5), .int (nI (xg S))])).length) Slot.unset).toArray = ls at hl ⊢
  have hl : lv_has ls 6 [(0, .ref (q 0)), (1, .ref (q 5)), (2, .int (nI (xg S)))] := hl
  refine lv_aload_n hx hb dX0_countFalse_0 rfl (lv_at hl 0 rfl) ?_
  refine va_get (v := .int (xt S)) hx hb hts hinX0 hown hK hP 0 rfl rfl 1 (by decide) hf184 (fun _ h9 => h9) rfl dX0_countFalse_1 ?_
  refine xc_s (As := [.int (xt S)]) (rest := []) ⟨hx, hb, hml, hown, hts⟩ (kX0_trueLiterals l (xt S)) (va_cwS 1 hts (gd_S bw_48 bw_49 bw_1 bw_50) rfl rfl rfl (by decide +kernel) ⟨Nat.le_of_ble_eq_true rfl, Nat.le_of_ble_eq_true rfl⟩) rfl hl.1 rfl (Nat.le_of_ble_eq_true rfl) dX0_countFalse_4 ⟨Nat.zero_le _, Nat.zero_le _⟩ ?_
  refine lv_istore_n (lv' := [(3, .int (k_tl (xt S))), (0, .ref (q 0)), (1, .ref (q 5)), (2, .int (nI (xg S)))]) hx hb dX0_countFalse_7 rfl hl (by decide) rfl (fun ls hl => ?_)
  refine lv_iconst (v := 0) hx hb dX0_countFalse_8 (by decide) ?_
  refine lv_istore (lv' := [(4, .int 0), (3, .int (k_tl (xt S))), (0, .ref (q 0)), (1, .ref (q 5)), (2, .int (nI (xg S)))]) hx hb dX0_countFalse_9 hl (by decide) rfl (fun ls hl => ?_)
  refine lv_iconst (v := 0) hx hb dX0_countFalse_11 (by decide) ?_
  refine lv_istore (lv' := [(5, .int 0), (4, .int 0), (3, .int (k_tl (xt S))), (0, .ref (q 0)), (1, .ref (q 5)), (2, .int (nI (xg S)))]) hx hb dX0_countFalse_12 hl (by decide) rfl (fun ls hl => ?_)
  refine wlr (σ := Nat × Nat) (fun (x9 : Nat × Nat) ls => match x9 with | (k, a) => lv_has ls 6 [(5, .int (nI k)), (4, .int (nI a)), (3, .int (k_tl (xt S))), (0, .ref (q 0)), (1, .ref (q 5)), (2, .int (nI (xg S)))] ∧ k ≤ xg S ∧ a ≤ k ∧ q_ct (fun k => (xgi S k &&& k_tl (xt S)) == 0) (xg S - 0) 0 0 = q_ct (fun k => (xgi S k &&& k_tl (xt S)) == 0) (xg S - k) k a) (fun (x9 : Nat × Nat) => match x9 with | (k, a) => xg S - k) (0, 0) ⟨lv_sub hl [0, 1, 2, 3, 4, 5] rfl, (Nat.zero_le _), (Nat.zero_le _), rfl⟩ ?_
  intro x9 ls hI ih14
  obtain ⟨k, a⟩ := x9
  obtain ⟨hl, hk, ha, hq⟩ := hI
  have hl : lv_has ls 6 [(5, .int (nI k)), (4, .int (nI a)), (3, .int (k_tl (xt S))), (0, .ref (q 0)), (1, .ref (q 5)), (2, .int (nI (xg S)))] := hl
  refine lv_iload hx hb dX0_countFalse_14 (lv_at hl 0 rfl) ?_
  refine lv_iload_n hx hb dX0_countFalse_16 rfl (lv_at hl 5 rfl) ?_
  refine lv_icmp_ge (tgt := 38) hx hb dX0_countFalse_17 (by decide) (fun hc17 => ?_) (fun hc17 => ?_)
  · have hge : xg S ≤ k := (nI_leI (by omega) (by omega)).mp hc17
    refine lv_iload hx hb dX0_countFalse_38 (lv_at hl 1 rfl) ?_
    have hv9 : nI (q_ct (fun k => (xgi S k &&& k_tl (xt S)) == 0) (xg S) 0 0) = nI a := by rw [show q_ct (fun k => (xgi S k &&& k_tl (xt S)) == 0) (xg S) 0 0 = q_ct (fun k => (xgi S k &&& k_tl (xt S)) == 0) (xg S - 0) 0 0 from rfl, hq, q_ct_end hge]
    exact W.iret (v := (nI a)) hx hb hr (fun t ht hW => ⟨by rw [hv9], ht⟩) (fun _ h => nomatch h) dX0_countFalse_40
  · have hlt : k < xg S := Nat.lt_of_not_le (fun z => hc17 ((nI_leI (by omega) (by omega)).mpr z))
    refine lv_aload_n hx hb dX0_countFalse_20 rfl (lv_at hl 4 rfl) ?_
    refine lv_iload hx hb dX0_countFalse_21 (lv_at hl 0 rfl) ?_
    refine xa_ld hx hb hK hP 5 0 rfl rfl k (by omega) (by first | decide | assumption) dX0_countFalse_23 ?_
    refine lv_iload_n hx hb dX0_countFalse_24 rfl (lv_at hl 2 rfl) ?_
    refine lv_iand hx hb dX0_countFalse_25 ?_
    refine lv_if_ne (tgt := 32) hx hb dX0_countFalse_26 (by decide) (fun hc26 => ?_) (fun hc26 => ?_)
    · refine lv_iinc (k := 0) (v := nI (k + 1)) (lv' := [(5, .int (nI (k + 1))), (4, .int (nI a)), (3, .int (k_tl (xt S))), (0, .ref (q 0)), (1, .ref (q 5)), (2, .int (nI (xg S)))]) hx hb dX0_countFalse_32 hl rfl (ii_1 _) (by decide) rfl (fun ls hl => ?_)
      refine lv_goto (tgt := 14) hx hb dX0_countFalse_35 (by decide) ?_
      exact ih14 (k + 1, a) _ ⟨lv_sub hl [0, 1, 2, 3, 4, 5] rfl, (by omega), (by omega), hq.trans (q_ct_f hlt (by simp [hc26]))⟩ (by show xg S - (k + 1) < xg S - k; omega)
    · refine lv_iinc (k := 1) (v := nI (a + 1)) (lv' := [(4, .int (nI (a + 1))), (5, .int (nI k)), (3, .int (k_tl (xt S))), (0, .ref (q 0)), (1, .ref (q 5)), (2, .int (nI (xg S)))]) hx hb dX0_countFalse_29 hl rfl (ii_1 _) (by decide) rfl (fun ls hl => ?_)
      refine lv_iinc (k := 1) (v := nI (k + 1)) (lv' := [(5, .int (nI (k + 1))), (4, .int (nI (a + 1))), (3, .int (k_tl (xt S))), (0, .ref (q 0)), (1, .ref (q 5)), (2, .int (nI (xg S)))]) hx hb dX0_countFalse_32 hl rfl (ii_1 _) (by decide) rfl (fun ls hl => ?_)
      refine lv_goto (tgt := 14) hx hb dX0_countFalse_35 (by decide) ?_
      exact ih14 (k + 1, a + 1) _ ⟨lv_sub hl [0, 1, 2, 3, 4, 5] rfl, (by omega), (by omega), hq.trans (q_ct_t hlt (by simp [hc26]))⟩ (by show xg S - (k + 1) < xg S - k; omega)

set_option maxHeartbeats 4000000 in
set_option maxRecDepth 100000 in
theorem kX0_unmet (l : Launch) (D : va_G) (q : Nat → Nat) (cA : ClassId) (S : XS) (hok : okX S) : xr_M l yX0_unmet wsX0_unmet ({ frames := 2, cells := 0, slots := 0, locals := 45 }) D vwCl [(cA, .int)] [.ref (q 0)] (wX q cA S) (nI (q_ct (fun k => (xgi S k &&& k_tl (xt S)) == 0) (xg S) 0 0)) := by
  refine Met.ofW (cc := cX0_unmet) (maxL := 1) (ret := (some .int)) (by decide) rfl ?_
  intro p e s m args below meth c s₁ B hml hv
  obtain ⟨rfl, hP, hK⟩ := hv
  obtain ⟨hn40, hh200, hg100⟩ := id hok
  have hx := B.exec
  have hb := B.bytes
  have hr := B.returns
  have hts := atoms_spec (ws := wsX0_unmet) B.pre
  have hown : s.vm.findClass RX0 = some m.cls := findClass_of_methodNamed B.named
  have hlocks := B.notSynchronized
  have hinX0 : ∀ w ∈ u_ws RX0 TX0 12, w ∈ wsX0_unmet := fun w h => List.mem_cons_of_mem _ (bw_X0 w h)
  have hf22 := hts _ (List.mem_cons_of_mem _ bw_28)
  have hf76 := hts _ (List.mem_cons_of_mem _ bw_29)
  have hl := lv_entry ([.ref (q 0)]) (n := 1) (Nat.le_of_ble_eq_true rfl)
  rw [lg_entry_eq]
  generalize (lg_sl ([.ref (q 0)]) ++ List.replicate (1 - (lg_sl ([.ref (q 0)])).length) Slot.unset).toArray = ls at hl ⊢
  have hl : lv_has ls 1 [(0, .ref (q 0))] := hl
  refine lv_aload_n hx hb dX0_unmet_0 rfl (lv_at hl 0 rfl) ?_
  refine lv_aload_n hx hb dX0_unmet_1 rfl (lv_at hl 0 rfl) ?_
  refine va_get (v := .ref (q 5)) hx hb hts hinX0 hown hK hP 0 rfl rfl 9 (by decide) hf22 (fun _ h9 => h9) rfl dX0_unmet_2 ?_
  refine lv_aload_n hx hb dX0_unmet_5 rfl (lv_at hl 0 rfl) ?_
  refine va_get (v := .int (nI (xg S))) hx hb hts hinX0 hown hK hP 0 rfl rfl 10 (by decide) hf76 (fun _ h9 => h9) rfl dX0_unmet_6 ?_
  refine xc_rv (As := [.ref (q 5), .int (nI (xg S))]) (rest := []) ⟨hx, hb, hml, hown, hts⟩ (kX0_countFalse_g l D q cA S hok) (cwV 2 hts (gd_V bw_69 bw_70 bw_411 bw_1 bw_71) rfl rfl rfl (by decide +kernel) ⟨Nat.le_of_ble_eq_true rfl, Nat.le_of_ble_eq_true rfl⟩) (va_recv (ci := 0) (q0 := 0) hK hP rfl rfl) hP hK rfl hl.1 rfl (Nat.le_of_ble_eq_true rfl) dX0_unmet_9 ⟨Nat.zero_le _, Nat.zero_le _⟩ ?_
  exact W.iret (v := (nI (q_ct (fun k => (xgi S k &&& k_tl (xt S)) == 0) (xg S) 0 0))) hx hb hr (fun t ht hW => ⟨rfl, ht⟩) (fun _ h => nomatch h) dX0_unmet_12

set_option maxHeartbeats 4000000 in
set_option maxRecDepth 100000 in
theorem kX0_isBlocked (l : Launch) (D : va_G) (q : Nat → Nat) (cA : ClassId) (S : XS) (hok : okX S) (x y : Int32) : xr_M l yX0_isBlocked wsX0_isBlocked ({ frames := 1, cells := 0, slots := 0, locals := 22 }) D vwCl [(cA, .int)] [.ref (q 0), .int x, .int y] (wX q cA S) (k_b (q_isb (vXL S) x y)) := by
  refine Met.ofW (cc := cX0_isBlocked) (maxL := 5) (ret := (some .boolean)) (by decide) rfl ?_
  intro p e s m args below meth c s₁ B hml hv
  obtain ⟨rfl, hP, hK⟩ := hv
  obtain ⟨hn40, hh200, hg100⟩ := id hok
  have hx := B.exec
  have hb := B.bytes
  have hr := B.returns
  have hts := atoms_spec (ws := wsX0_isBlocked) B.pre
  have hown : s.vm.findClass RX0 = some m.cls := findClass_of_methodNamed B.named
  have hlocks := B.notSynchronized
  have hinX0 : ∀ w ∈ u_ws RX0 TX0 12, w ∈ wsX0_isBlocked := fun w h => List.mem_cons_of_mem _ (bw_X0 w h)
  have hf9 := hts _ (List.mem_cons_of_mem _ bw_21)
  have hf58 := hts _ (List.mem_cons_of_mem _ bw_23)
  have hl := lv_entry ([.ref (q 0), .int x, .int y]) (n := 5) (Nat.le_of_ble_eq_true rfl)
  rw [lg_entry_eq]
  generalize (lg_sl ([.ref (q 0), .int x, .int y]) ++ List.replicate (5 - (lg_sl ([.ref (q 0), .int x, .int y])).length) Slot.unset).toArray = ls at hl ⊢
  have hl : lv_has ls 5 [(0, .ref (q 0)), (1, .int x), (2, .int y)] := hl
  refine lv_iload_n hx hb dX0_isBlocked_0 rfl (lv_at hl 2 rfl) ?_
  refine xc_s (As := [.int y]) (rest := []) ⟨hx, hb, hml, hown, hts⟩ (kX0_contrary l y) (va_cwS 1 hts (gd_S bw_155 bw_156 bw_1 bw_157) rfl rfl rfl (by decide +kernel) ⟨Nat.le_of_ble_eq_true rfl, Nat.le_of_ble_eq_true rfl⟩) rfl hl.1 rfl (Nat.le_of_ble_eq_true rfl) dX0_isBlocked_1 ⟨Nat.zero_le _, Nat.zero_le _⟩ ?_
  refine lv_istore_n (lv' := [(3, .int (k_con y)), (0, .ref (q 0)), (1, .int x), (2, .int y)]) hx hb dX0_isBlocked_4 rfl hl (by decide) rfl (fun ls hl => ?_)
  refine lv_iconst (v := 0) hx hb dX0_isBlocked_5 (by decide) ?_
  refine lv_istore (lv' := [(4, .int 0), (3, .int (k_con y)), (0, .ref (q 0)), (1, .int x), (2, .int y)]) hx hb dX0_isBlocked_6 hl (by decide) rfl (fun ls hl => ?_)
  refine wlr (σ := Nat) (fun (j : Nat) ls => lv_has ls 5 [(4, .int (nI j)), (3, .int (k_con y)), (0, .ref (q 0)), (1, .int x), (2, .int y)] ∧ j ≤ xn S ∧ q_up (fun d => (q_set (vXL S) d &&& k_con y) != 0 && !k_taut (k_res x (q_set (vXL S) d) (y ||| k_con y))) (xn S - 0) 0 = q_up (fun d => (q_set (vXL S) d &&& k_con y) != 0 && !k_taut (k_res x (q_set (vXL S) d) (y ||| k_con y))) (xn S - j) j) (fun (j : Nat) => xn S - j) 0 ⟨lv_sub hl [0, 1, 2, 3, 4] rfl, (by omega), rfl⟩ ?_
  intro j ls hI ih8
  obtain ⟨hl, hk, hq⟩ := hI
  have hl : lv_has ls 5 [(4, .int (nI j)), (3, .int (k_con y)), (0, .ref (q 0)), (1, .int x), (2, .int y)] := hl
  refine lv_iload hx hb dX0_isBlocked_8 (lv_at hl 0 rfl) ?_
  refine lv_aload_n hx hb dX0_isBlocked_10 rfl (lv_at hl 2 rfl) ?_
  refine va_get (v := .int (nI (xn S))) hx hb hts hinX0 hown hK hP 0 rfl rfl 4 (by decide) hf58 (fun _ h9 => h9) rfl dX0_isBlocked_11 ?_
  refine lv_icmp_ge (tgt := 57) hx hb dX0_isBlocked_14 (by decide) (fun hc14 => ?_) (fun hc14 => ?_)
  · have hge : xn S ≤ j := (nI_leI (by omega) (by omega)).mp hc14
    refine lv_iconst (v := 1) hx hb dX0_isBlocked_57 (by decide) ?_
    have hv9 : k_b (q_isb (vXL S) x y) = 1 := by rw [show q_isb (vXL S) x y = (q_up (fun d => (q_set (vXL S) d &&& k_con y) != 0 && !k_taut (k_res x (q_set (vXL S) d) (y ||| k_con y))) (xn S - 0) 0).isNone from by unfold q_isb; rw [cl_of_len]; rfl, hq, q_up_end hge]; rfl
    exact W.zret (v := 1) hx hb hr (by rfl) (fun t ht hW => ⟨by rw [hv9], ht⟩) (fun _ h => nomatch h) dX0_isBlocked_58
  · have hlt : j < xn S := Nat.lt_of_not_le (fun z => hc14 ((nI_leI (by omega) (by omega)).mpr z))
    have hs : q_set (vXL S) j = xse S j := q_set_of hlt
    refine lv_aload_n hx hb dX0_isBlocked_17 rfl (lv_at hl 2 rfl) ?_
    refine va_get (v := .ref (q 1)) hx hb hts hinX0 hown hK hP 0 rfl rfl 2 (by decide) hf9 (fun _ h9 => h9) rfl dX0_isBlocked_18 ?_
    refine lv_iload hx hb dX0_isBlocked_21 (lv_at hl 0 rfl) ?_
    refine xa_ld hx hb hK hP 1 0 rfl rfl j (by omega) (by first | decide | assumption) dX0_isBlocked_23 ?_
    refine lv_iload_n hx hb dX0_isBlocked_24 rfl (lv_at hl 1 rfl) ?_
    refine lv_iand hx hb dX0_isBlocked_25 ?_
    refine lv_if_eq (tgt := 51) hx hb dX0_isBlocked_26 (by decide) (fun hc26 => ?_) (fun hc26 => ?_)
    · refine lv_iinc (k := 0) (v := nI (j + 1)) (lv' := [(4, .int (nI (j + 1))), (3, .int (k_con y)), (0, .ref (q 0)), (1, .int x), (2, .int y)]) hx hb dX0_isBlocked_51 hl rfl (ii_1 _) (by decide) rfl (fun ls hl => ?_)
      refine lv_goto (tgt := 8) hx hb dX0_isBlocked_54 (by decide) ?_
      exact ih8 (j + 1) _ ⟨lv_sub hl [0, 1, 2, 3, 4] rfl, (by omega), hq.trans (q_up_f hlt (by simp [hc26, hs]))⟩ (by omega)
    · refine lv_iload_n hx hb dX0_isBlocked_29 rfl (lv_at hl 3 rfl) ?_
      refine lv_aload_n hx hb dX0_isBlocked_30 rfl (lv_at hl 2 rfl) ?_
      refine va_get (v := .ref (q 1)) hx hb hts hinX0 hown hK hP 0 rfl rfl 2 (by decide) hf9 (fun _ h9 => h9) rfl dX0_isBlocked_31 ?_
      refine lv_iload hx hb dX0_isBlocked_34 (lv_at hl 0 rfl) ?_
      refine xa_ld hx hb hK hP 1 0 rfl rfl j (by omega) (by first | decide | assumption) dX0_isBlocked_36 ?_
      refine lv_iload_n hx hb dX0_isBlocked_37 rfl (lv_at hl 4 rfl) ?_
      refine lv_iload_n hx hb dX0_isBlocked_38 rfl (lv_at hl 1 rfl) ?_
      refine lv_ior hx hb dX0_isBlocked_39 ?_
      refine xc_s (As := [.int x, .int ((xse S) j), .int (y ||| (k_con y))]) (rest := []) ⟨hx, hb, hml, hown, hts⟩ (kX0_resolvent l x ((xse S) j) (y ||| (k_con y))) (va_cwS 3 hts (gd_S bw_197 bw_198 bw_1 bw_199) rfl rfl rfl (by decide +kernel) ⟨Nat.le_of_ble_eq_true rfl, Nat.le_of_ble_eq_true rfl⟩) rfl hl.1 rfl (Nat.le_of_ble_eq_true rfl) dX0_isBlocked_40 ⟨Nat.zero_le _, Nat.zero_le _⟩ ?_
      refine xc_s (As := [.int (k_res x ((xse S) j) (y ||| (k_con y)))]) (rest := []) ⟨hx, hb, hml, hown, hts⟩ (kX0_isTautology l (k_res x ((xse S) j) (y ||| (k_con y)))) (va_cwS 1 hts (gd_S bw_119 bw_120 bw_1 bw_121) rfl rfl rfl (by decide +kernel) ⟨Nat.le_of_ble_eq_true rfl, Nat.le_of_ble_eq_true rfl⟩) rfl hl.1 rfl (Nat.le_of_ble_eq_true rfl) dX0_isBlocked_43 ⟨Nat.zero_le _, Nat.zero_le _⟩ ?_
      refine lv_if_ne (tgt := 51) hx hb dX0_isBlocked_46 (by decide) (fun hc46 => ?_) (fun hc46 => ?_)
      · have hc46 := kb_n0.mp hc46
        refine lv_iinc (k := 0) (v := nI (j + 1)) (lv' := [(4, .int (nI (j + 1))), (3, .int (k_con y)), (0, .ref (q 0)), (1, .int x), (2, .int y)]) hx hb dX0_isBlocked_51 hl rfl (ii_1 _) (by decide) rfl (fun ls hl => ?_)
        refine lv_goto (tgt := 8) hx hb dX0_isBlocked_54 (by decide) ?_
        exact ih8 (j + 1) _ ⟨lv_sub hl [0, 1, 2, 3, 4] rfl, (by omega), hq.trans (q_up_f hlt (by simp [hc26, hc46, hs]))⟩ (by omega)
      · have hc46 := kb_0.mp hc46
        refine lv_iconst (v := 0) hx hb dX0_isBlocked_49 (by decide) ?_
        have hv9 : k_b (q_isb (vXL S) x y) = 0 := by rw [show q_isb (vXL S) x y = (q_up (fun d => (q_set (vXL S) d &&& k_con y) != 0 && !k_taut (k_res x (q_set (vXL S) d) (y ||| k_con y))) (xn S - 0) 0).isNone from by unfold q_isb; rw [cl_of_len]; rfl, hq, q_up_t hlt (by simp [hs, hc26, hc46])]; rfl
        exact W.zret (v := 0) hx hb hr (by rfl) (fun t ht hW => ⟨by rw [hv9], ht⟩) (fun _ h => nomatch h) dX0_isBlocked_50

set_option maxHeartbeats 4000000 in
set_option maxRecDepth 100000 in
theorem kX0_blockedLiteral (l : Launch) (D : va_G) (q : Nat → Nat) (cA : ClassId) (S : XS) (hok : okX S) (x : Int32) : xr_M l yX0_blockedLiteral wsX0_blockedLiteral ({ frames := 2, cells := 0, slots := 0, locals := 46 }) D vwCl [(cA, .int)] [.ref (q 0), .int x] (wX q cA S) (q_bl (vXL S) x) := by
  refine Met.ofW (cc := cX0_blockedLiteral) (maxL := 4) (ret := (some .int)) (by decide) rfl ?_
  intro p e s m args below meth c s₁ B hml hv
  obtain ⟨rfl, hP, hK⟩ := hv
  obtain ⟨hn40, hh200, hg100⟩ := id hok
  have hx := B.exec
  have hb := B.bytes
  have hr := B.returns
  have hts := atoms_spec (ws := wsX0_blockedLiteral) B.pre
  have hown : s.vm.findClass RX0 = some m.cls := findClass_of_methodNamed B.named
  have hlocks := B.notSynchronized
  have hl := lv_entry ([.ref (q 0), .int x]) (n := 4) (Nat.le_of_ble_eq_true rfl)
  rw [lg_entry_eq]
  generalize (lg_sl ([.ref (q 0), .int x]) ++ List.replicate (4 - (lg_sl ([.ref (q 0), .int x])).length) Slot.unset).toArray = ls at hl ⊢
  have hl : lv_has ls 4 [(0, .ref (q 0)), (1, .int x)] := hl
  refine lv_iconst (v := 1) hx hb dX0_blockedLiteral_0 (by decide) ?_
  refine lv_istore_n (lv' := [(2, .int 1), (0, .ref (q 0)), (1, .int x)]) hx hb dX0_blockedLiteral_1 rfl hl (by decide) rfl (fun ls hl => ?_)
  refine wlr (σ := Nat) (fun (v : Nat) ls => lv_has ls 4 [(2, .int (nI v)), (0, .ref (q 0)), (1, .int x)] ∧ v ≤ 11 ∧ q_up (fun v => (x &&& k_both (nI v)) != 0 && q_isb (vXL S) x (x &&& k_both (nI v))) (11 - 1) 1 = q_up (fun v => (x &&& k_both (nI v)) != 0 && q_isb (vXL S) x (x &&& k_both (nI v))) (11 - v) v ∧ 1 ≤ v) (fun (v : Nat) => 11 - v) 1 ⟨lv_sub hl [0, 1, 2] rfl, (by omega), rfl, Nat.le_refl _⟩ ?_
  intro v ls hI ih2
  obtain ⟨hl, hk, hq, h0⟩ := hI
  have hl : lv_has ls 4 [(2, .int (nI v)), (0, .ref (q 0)), (1, .int x)] := hl
  refine lv_iload_n hx hb dX0_blockedLiteral_2 rfl (lv_at hl 0 rfl) ?_
  refine lv_bipush (v := 10) hx hb dX0_blockedLiteral_3 (by decide) ?_
  refine lv_icmp_gt (tgt := 36) hx hb dX0_blockedLiteral_5 (by decide) (fun hc5 => ?_) (fun hc5 => ?_)
  · have hge : 11 ≤ v := (nI_ltI (a := 10) (by decide) (by omega)).mp hc5
    refine lv_iconst (v := 0) hx hb dX0_blockedLiteral_36 (by decide) ?_
    have hv9 : q_bl (vXL S) x = 0 := by unfold q_bl; rw [show q_blv (vXL S) x = q_up (fun v => (x &&& k_both (nI v)) != 0 && q_isb (vXL S) x (x &&& k_both (nI v))) (11 - 1) 1 from rfl, hq, q_up_end hge]
    exact W.iret (v := 0) hx hb hr (fun t ht hW => ⟨by rw [hv9], ht⟩) (fun _ h => nomatch h) dX0_blockedLiteral_37
  · have hlt : v < 11 := Nat.lt_of_not_le (fun z => hc5 ((nI_ltI (a := 10) (by decide) (by omega)).mpr z))
    refine lv_iload_n hx hb dX0_blockedLiteral_8 rfl (lv_at hl 2 rfl) ?_
    refine lv_iload_n hx hb dX0_blockedLiteral_9 rfl (lv_at hl 0 rfl) ?_
    refine xc_s (As := [.int (nI v)]) (rest := [.int x]) ⟨hx, hb, hml, hown, hts⟩ (kX0_bothLiterals l (nI v)) (va_cwS 1 hts (gd_S bw_191 bw_192 bw_1 bw_193) rfl rfl rfl (by decide +kernel) ⟨Nat.le_of_ble_eq_true rfl, Nat.le_of_ble_eq_true rfl⟩) rfl hl.1 rfl (Nat.le_of_ble_eq_true rfl) dX0_blockedLiteral_10 ⟨Nat.zero_le _, Nat.zero_le _⟩ ?_
    refine lv_iand hx hb dX0_blockedLiteral_13 ?_
    refine lv_istore_n (lv' := [(3, .int (x &&& (k_both (nI v)))), (2, .int (nI v)), (0, .ref (q 0)), (1, .int x)]) hx hb dX0_blockedLiteral_14 rfl hl (by decide) rfl (fun ls hl => ?_)
    refine lv_iload_n hx hb dX0_blockedLiteral_15 rfl (lv_at hl 0 rfl) ?_
    refine lv_if_eq (tgt := 30) hx hb dX0_blockedLiteral_16 (by decide) (fun hc16 => ?_) (fun hc16 => ?_)
    · refine lv_iinc (k := 1) (v := nI (v + 1)) (lv' := [(2, .int (nI (v + 1))), (3, .int (x &&& (k_both (nI v)))), (0, .ref (q 0)), (1, .int x)]) hx hb dX0_blockedLiteral_30 hl rfl (ii_1 _) (by decide) rfl (fun ls hl => ?_)
      refine lv_goto (tgt := 2) hx hb dX0_blockedLiteral_33 (by decide) ?_
      exact ih2 (v + 1) _ ⟨lv_sub hl [0, 2, 3] rfl, (by omega), hq.trans (q_up_f hlt (by simp [hc16])), (by omega)⟩ (by omega)
    · refine lv_aload_n hx hb dX0_blockedLiteral_19 rfl (lv_at hl 2 rfl) ?_
      refine lv_iload_n hx hb dX0_blockedLiteral_20 rfl (lv_at hl 3 rfl) ?_
      refine lv_iload_n hx hb dX0_blockedLiteral_21 rfl (lv_at hl 0 rfl) ?_
      refine xc_rv (As := [.int x, .int (x &&& (k_both (nI v)))]) (rest := []) ⟨hx, hb, hml, hown, hts⟩ (kX0_isBlocked l D q cA S hok x (x &&& (k_both (nI v)))) (cwV 2 hts (gd_V bw_194 bw_195 bw_429 bw_1 bw_196) rfl rfl rfl (by decide +kernel) ⟨Nat.le_of_ble_eq_true rfl, Nat.le_of_ble_eq_true rfl⟩) (va_recv (ci := 0) (q0 := 0) hK hP rfl rfl) hP hK rfl hl.1 rfl (Nat.le_of_ble_eq_true rfl) dX0_blockedLiteral_22 ⟨Nat.zero_le _, Nat.zero_le _⟩ ?_
      refine lv_if_eq (tgt := 30) hx hb dX0_blockedLiteral_25 (by decide) (fun hc25 => ?_) (fun hc25 => ?_)
      · have hc25 := kb_0.mp hc25
        refine lv_iinc (k := 1) (v := nI (v + 1)) (lv' := [(2, .int (nI (v + 1))), (3, .int (x &&& (k_both (nI v)))), (0, .ref (q 0)), (1, .int x)]) hx hb dX0_blockedLiteral_30 hl rfl (ii_1 _) (by decide) rfl (fun ls hl => ?_)
        refine lv_goto (tgt := 2) hx hb dX0_blockedLiteral_33 (by decide) ?_
        exact ih2 (v + 1) _ ⟨lv_sub hl [0, 2, 3] rfl, (by omega), hq.trans (q_up_f hlt (by simp [hc16, hc25])), (by omega)⟩ (by omega)
      · have hc25 := kb_n0.mp hc25
        refine lv_iload_n hx hb dX0_blockedLiteral_28 rfl (lv_at hl 0 rfl) ?_
        have hv9 : q_bl (vXL S) x = x &&& (k_both (nI v)) := by unfold q_bl; rw [show q_blv (vXL S) x = q_up (fun v => (x &&& k_both (nI v)) != 0 && q_isb (vXL S) x (x &&& k_both (nI v))) (11 - 1) 1 from rfl, hq, q_up_t hlt (by simp [hc16, hc25])]
        exact W.iret (v := (x &&& (k_both (nI v)))) hx hb hr (fun t ht hW => ⟨by rw [hv9], ht⟩) (fun _ h => nomatch h) dX0_blockedLiteral_29

set_option maxHeartbeats 4000000 in
set_option maxRecDepth 100000 in
theorem kX0_clause (l : Launch) (D : va_G) (q : Nat → Nat) (cA : ClassId) (S : XS) (hok : okX S) (k : Nat) (hk9 : k < xn S) : xr_M l yX0_clause wsX0_clause ({ frames := 0, cells := 0, slots := 0, locals := 0 }) D vwCl [(cA, .int)] [.ref (q 0), .int (nI k)] (wX q cA S) (xse S k) := by
  refine Met.ofW (cc := cX0_clause) (maxL := 2) (ret := (some .int)) (by decide) rfl ?_
  intro p e s m args below meth c s₁ B hml hv
  obtain ⟨rfl, hP, hK⟩ := hv
  obtain ⟨hn40, hh200, hg100⟩ := id hok
  have hx := B.exec
  have hb := B.bytes
  have hr := B.returns
  have hts := atoms_spec (ws := wsX0_clause) B.pre
  have hown : s.vm.findClass RX0 = some m.cls := findClass_of_methodNamed B.named
  have hlocks := B.notSynchronized
  have hinX0 : ∀ w ∈ u_ws RX0 TX0 12, w ∈ wsX0_clause := fun w h => List.mem_cons_of_mem _ (bw_X0 w h)
  have hf9 := hts _ (List.mem_cons_of_mem _ bw_21)
  have hf58 := hts _ (List.mem_cons_of_mem _ bw_23)
  have hl := lv_entry ([.ref (q 0), .int (nI k)]) (n := 2) (Nat.le_of_ble_eq_true rfl)
  rw [lg_entry_eq]
  generalize (lg_sl ([.ref (q 0), .int (nI k)]) ++ List.replicate (2 - (lg_sl ([.ref (q 0), .int (nI k)])).length) Slot.unset).toArray = ls at hl ⊢
  have hl : lv_has ls 2 [(0, .ref (q 0)), (1, .int (nI k))] := hl
  refine lv_iload_n hx hb dX0_clause_0 rfl (lv_at hl 1 rfl) ?_
  refine lv_if_lt (tgt := 12) hx hb dX0_clause_1 (by decide) (fun hc1 => ?_) (fun hc1 => ?_)
  · exact absurd hc1 (nI_pos (by omega))
  · refine lv_iload_n hx hb dX0_clause_4 rfl (lv_at hl 1 rfl) ?_
    refine lv_aload_n hx hb dX0_clause_5 rfl (lv_at hl 0 rfl) ?_
    refine va_get (v := .int (nI (xn S))) hx hb hts hinX0 hown hK hP 0 rfl rfl 4 (by decide) hf58 (fun _ h9 => h9) rfl dX0_clause_6 ?_
    refine lv_icmp_lt (tgt := 22) hx hb dX0_clause_9 (by decide) (fun hc9 => ?_) (fun hc9 => ?_)
    · refine lv_aload_n hx hb dX0_clause_22 rfl (lv_at hl 0 rfl) ?_
      refine va_get (v := .ref (q 1)) hx hb hts hinX0 hown hK hP 0 rfl rfl 2 (by decide) hf9 (fun _ h9 => h9) rfl dX0_clause_23 ?_
      refine lv_iload_n hx hb dX0_clause_26 rfl (lv_at hl 1 rfl) ?_
      refine xa_ld hx hb hK hP 1 0 rfl rfl k (by omega) (by first | decide | assumption) dX0_clause_27 ?_
      exact W.iret (v := (xse S k)) hx hb hr (fun t ht hW => ⟨rfl, ht⟩) (fun _ h => nomatch h) dX0_clause_28
    · exact absurd (nI_lt hk9 (by omega)) hc9

set_option maxHeartbeats 4000000 in
set_option maxRecDepth 100000 in
theorem kX0_number (l : Launch) (D : va_G) (q : Nat → Nat) (cA : ClassId) (S : XS) (hok : okX S) (k : Nat) (hk9 : k < xn S) : xr_M l yX0_number wsX0_number ({ frames := 0, cells := 0, slots := 0, locals := 0 }) D vwCl [(cA, .int)] [.ref (q 0), .int (nI k)] (wX q cA S) (xnu S k) := by
  refine Met.ofW (cc := cX0_number) (maxL := 2) (ret := (some .int)) (by decide) rfl ?_
  intro p e s m args below meth c s₁ B hml hv
  obtain ⟨rfl, hP, hK⟩ := hv
  obtain ⟨hn40, hh200, hg100⟩ := id hok
  have hx := B.exec
  have hb := B.bytes
  have hr := B.returns
  have hts := atoms_spec (ws := wsX0_number) B.pre
  have hown : s.vm.findClass RX0 = some m.cls := findClass_of_methodNamed B.named
  have hlocks := B.notSynchronized
  have hinX0 : ∀ w ∈ u_ws RX0 TX0 12, w ∈ wsX0_number := fun w h => List.mem_cons_of_mem _ (bw_X0 w h)
  have hf13 := hts _ (List.mem_cons_of_mem _ bw_22)
  have hf58 := hts _ (List.mem_cons_of_mem _ bw_23)
  have hl := lv_entry ([.ref (q 0), .int (nI k)]) (n := 2) (Nat.le_of_ble_eq_true rfl)
  rw [lg_entry_eq]
  generalize (lg_sl ([.ref (q 0), .int (nI k)]) ++ List.replicate (2 - (lg_sl ([.ref (q 0), .int (nI k)])).length) Slot.unset).toArray = ls at hl ⊢
  have hl : lv_has ls 2 [(0, .ref (q 0)), (1, .int (nI k))] := hl
  refine lv_iload_n hx hb dX0_number_0 rfl (lv_at hl 1 rfl) ?_
  refine lv_if_lt (tgt := 12) hx hb dX0_number_1 (by decide) (fun hc1 => ?_) (fun hc1 => ?_)
  · exact absurd hc1 (nI_pos (by omega))
  · refine lv_iload_n hx hb dX0_number_4 rfl (lv_at hl 1 rfl) ?_
    refine lv_aload_n hx hb dX0_number_5 rfl (lv_at hl 0 rfl) ?_
    refine va_get (v := .int (nI (xn S))) hx hb hts hinX0 hown hK hP 0 rfl rfl 4 (by decide) hf58 (fun _ h9 => h9) rfl dX0_number_6 ?_
    refine lv_icmp_lt (tgt := 22) hx hb dX0_number_9 (by decide) (fun hc9 => ?_) (fun hc9 => ?_)
    · refine lv_aload_n hx hb dX0_number_22 rfl (lv_at hl 0 rfl) ?_
      refine va_get (v := .ref (q 2)) hx hb hts hinX0 hown hK hP 0 rfl rfl 3 (by decide) hf13 (fun _ h9 => h9) rfl dX0_number_23 ?_
      refine lv_iload_n hx hb dX0_number_26 rfl (lv_at hl 1 rfl) ?_
      refine xa_ld hx hb hK hP 2 0 rfl rfl k (by omega) (by first | decide | assumption) dX0_number_27 ?_
      exact W.iret (v := (xnu S k)) hx hb hr (fun t ht hW => ⟨rfl, ht⟩) (fun _ h => nomatch h) dX0_number_28
    · exact absurd (nI_lt hk9 (by omega)) hc9

set_option maxHeartbeats 4000000 in
set_option maxRecDepth 100000 in
theorem kX0_entry (l : Launch) (D : va_G) (q : Nat → Nat) (cA : ClassId) (S : XS) (hok : okX S) (k : Nat) (hk9 : k < xh S) : xr_M l yX0_entry wsX0_entry ({ frames := 1, cells := 0, slots := 0, locals := 21 }) D vwCl [(cA, .int)] [.ref (q 0), .int (nI k)] (wX q cA S) (k_ent (xel S k)) := by
  refine Met.ofW (cc := cX0_entry) (maxL := 3) (ret := (some .int)) (by decide) rfl ?_
  intro p e s m args below meth c s₁ B hml hv
  obtain ⟨rfl, hP, hK⟩ := hv
  obtain ⟨hn40, hh200, hg100⟩ := id hok
  have hx := B.exec
  have hb := B.bytes
  have hr := B.returns
  have hts := atoms_spec (ws := wsX0_entry) B.pre
  have hown : s.vm.findClass RX0 = some m.cls := findClass_of_methodNamed B.named
  have hlocks := B.notSynchronized
  have hinX0 : ∀ w ∈ u_ws RX0 TX0 12, w ∈ wsX0_entry := fun w h => List.mem_cons_of_mem _ (bw_X0 w h)
  have hf19 := hts _ (List.mem_cons_of_mem _ bw_26)
  have hf149 := hts _ (List.mem_cons_of_mem _ bw_27)
  have hl := lv_entry ([.ref (q 0), .int (nI k)]) (n := 3) (Nat.le_of_ble_eq_true rfl)
  rw [lg_entry_eq]
  generalize (lg_sl ([.ref (q 0), .int (nI k)]) ++ List.replicate (3 - (lg_sl ([.ref (q 0), .int (nI k)])).length) Slot.unset).toArray = ls at hl ⊢
  have hl : lv_has ls 3 [(0, .ref (q 0)), (1, .int (nI k))] := hl
  refine lv_iload_n hx hb dX0_entry_0 rfl (lv_at hl 1 rfl) ?_
  refine lv_if_lt (tgt := 12) hx hb dX0_entry_1 (by decide) (fun hc1 => ?_) (fun hc1 => ?_)
  · exact absurd hc1 (nI_pos (by omega))
  · refine lv_iload_n hx hb dX0_entry_4 rfl (lv_at hl 1 rfl) ?_
    refine lv_aload_n hx hb dX0_entry_5 rfl (lv_at hl 0 rfl) ?_
    refine va_get (v := .int (nI (xh S))) hx hb hts hinX0 hown hK hP 0 rfl rfl 8 (by decide) hf149 (fun _ h9 => h9) rfl dX0_entry_6 ?_
    refine lv_icmp_lt (tgt := 22) hx hb dX0_entry_9 (by decide) (fun hc9 => ?_) (fun hc9 => ?_)
    · refine lv_aload_n hx hb dX0_entry_22 rfl (lv_at hl 0 rfl) ?_
      refine va_get (v := .ref (q 4)) hx hb hts hinX0 hown hK hP 0 rfl rfl 7 (by decide) hf19 (fun _ h9 => h9) rfl dX0_entry_23 ?_
      refine lv_iload_n hx hb dX0_entry_26 rfl (lv_at hl 1 rfl) ?_
      refine xa_ld hx hb hK hP 4 0 rfl rfl k (by omega) (by first | decide | assumption) dX0_entry_27 ?_
      refine xc_s (As := [.int ((xel S) k)]) (rest := []) ⟨hx, hb, hml, hown, hts⟩ (kJ6_numberOfTrailingZeros l ((xel S) k)) (va_cwS 1 hts (gd_S bw_242 bw_243 bw_7 bw_244) rfl rfl rfl (by decide +kernel) ⟨Nat.le_of_ble_eq_true rfl, Nat.le_of_ble_eq_true rfl⟩) rfl hl.1 rfl (Nat.le_of_ble_eq_true rfl) dX0_entry_28 ⟨Nat.zero_le _, Nat.zero_le _⟩ ?_
      refine lv_istore_n (lv' := [(2, .int (k_ntz ((xel S) k))), (0, .ref (q 0)), (1, .int (nI k))]) hx hb dX0_entry_31 rfl hl (by decide) rfl (fun ls hl => ?_)
      refine lv_iload_n hx hb dX0_entry_32 rfl (lv_at hl 0 rfl) ?_
      refine lv_bipush (v := 16) hx hb dX0_entry_33 (by decide) ?_
      refine lv_icmp_le (tgt := 45) hx hb dX0_entry_35 (by decide) (fun hc35 => ?_) (fun hc35 => ?_)
      · refine lv_iload_n hx hb dX0_entry_45 rfl (lv_at hl 0 rfl) ?_
        have hv9 : k_ent (xel S k) = k_ntz ((xel S) k) := by simp [k_ent, hc35]
        exact W.iret (v := (k_ntz ((xel S) k))) hx hb hr (fun t ht hW => ⟨by rw [hv9], ht⟩) (fun _ h => nomatch h) dX0_entry_46
      · refine lv_bipush (v := 16) hx hb dX0_entry_38 (by decide) ?_
        refine lv_iload_n hx hb dX0_entry_40 rfl (lv_at hl 0 rfl) ?_
        refine lv_isub hx hb dX0_entry_41 ?_
        refine lv_goto (tgt := 46) hx hb dX0_entry_42 (by decide) ?_
        have hv9 : k_ent (xel S k) = 16 - (k_ntz ((xel S) k)) := by simp [k_ent, hc35]
        exact W.iret (v := (16 - (k_ntz ((xel S) k)))) hx hb hr (fun t ht hW => ⟨by rw [hv9], ht⟩) (fun _ h => nomatch h) dX0_entry_46
    · exact absurd (nI_lt hk9 (by omega)) hc9

set_option maxHeartbeats 4000000 in
set_option maxRecDepth 100000 in
theorem kX0_satisfiable (l : Launch) (D : va_G) (q : Nat → Nat) (cA : ClassId) (S : XS) (hok : okX S) : xr_M l yX0_satisfiable wsX0_satisfiable ({ frames := 1, cells := 0, slots := 0, locals := 22 }) D vwCl [(cA, .int)] [.ref (q 0)] (wX q cA S) (k_b (q_sat (vXL S))) := by
  refine Met.ofW (cc := cX0_satisfiable) (maxL := 2) (ret := (some .boolean)) (by decide) rfl ?_
  intro p e s m args below meth c s₁ B hml hv
  obtain ⟨rfl, hP, hK⟩ := hv
  obtain ⟨hn40, hh200, hg100⟩ := id hok
  have hx := B.exec
  have hb := B.bytes
  have hr := B.returns
  have hts := atoms_spec (ws := wsX0_satisfiable) B.pre
  have hown : s.vm.findClass RX0 = some m.cls := findClass_of_methodNamed B.named
  have hlocks := B.notSynchronized
  have hl := lv_entry ([.ref (q 0)]) (n := 2) (Nat.le_of_ble_eq_true rfl)
  rw [lg_entry_eq]
  generalize (lg_sl ([.ref (q 0)]) ++ List.replicate (2 - (lg_sl ([.ref (q 0)])).length) Slot.unset).toArray = ls at hl ⊢
  have hl : lv_has ls 2 [(0, .ref (q 0))] := hl
  refine lv_iconst (v := 0) hx hb dX0_satisfiable_0 (by decide) ?_
  refine lv_istore_n (lv' := [(1, .int 0), (0, .ref (q 0))]) hx hb dX0_satisfiable_1 rfl hl (by decide) rfl (fun ls hl => ?_)
  refine wlr (σ := Nat) (fun (j : Nat) ls => lv_has ls 2 [(1, .int (nI (2 * j))), (0, .ref (q 0))] ∧ j ≤ 1024 ∧ q_up (fun j => q_aat (vXL S) (k_tl (nI (2 * j)))) (1024 - 0) 0 = q_up (fun j => q_aat (vXL S) (k_tl (nI (2 * j)))) (1024 - j) j) (fun (j : Nat) => 1024 - j) 0 ⟨lv_sub hl [0, 1] rfl, (by omega), rfl⟩ ?_
  intro j ls hI ih2
  obtain ⟨hl, hk, hq⟩ := hI
  have hl : lv_has ls 2 [(1, .int (nI (2 * j))), (0, .ref (q 0))] := hl
  refine lv_iload_n hx hb dX0_satisfiable_2 rfl (lv_at hl 0 rfl) ?_
  refine lv_sipush (v := 2046) hx hb dX0_satisfiable_3 (by decide) ?_
  refine lv_icmp_gt (tgt := 32) hx hb dX0_satisfiable_6 (by decide) (fun hc6 => ?_) (fun hc6 => ?_)
  · have hge : 1024 ≤ j := by
      have z := (nI_ltI (a := 2046) (by decide) (by omega)).mp hc6
      omega
    refine lv_iconst (v := 0) hx hb dX0_satisfiable_32 (by decide) ?_
    have hv9 : k_b (q_sat (vXL S)) = 0 := by rw [show q_sat (vXL S) = (q_up (fun j => q_aat (vXL S) (k_tl (nI (2 * j)))) (1024 - 0) 0).isSome from rfl, hq, q_up_end hge]; rfl
    exact W.zret (v := 0) hx hb hr (by rfl) (fun t ht hW => ⟨by rw [hv9], ht⟩) (fun _ h => nomatch h) dX0_satisfiable_33
  · have hlt : j < 1024 := Nat.lt_of_not_le (fun z => hc6 ((nI_ltI (a := 2046) (by decide) (by omega)).mpr (by omega)))
    refine lv_aload_n hx hb dX0_satisfiable_9 rfl (lv_at hl 1 rfl) ?_
    refine lv_iload_n hx hb dX0_satisfiable_10 rfl (lv_at hl 0 rfl) ?_
    refine xc_s (As := [.int (nI (2 * j))]) (rest := [.ref (q 0)]) ⟨hx, hb, hml, hown, hts⟩ (kX0_trueLiterals l (nI (2 * j))) (va_cwS 1 hts (gd_S bw_48 bw_49 bw_1 bw_50) rfl rfl rfl (by decide +kernel) ⟨Nat.le_of_ble_eq_true rfl, Nat.le_of_ble_eq_true rfl⟩) rfl hl.1 rfl (Nat.le_of_ble_eq_true rfl) dX0_satisfiable_11 ⟨Nat.zero_le _, Nat.zero_le _⟩ ?_
    refine xc_rv (As := [.int (k_tl (nI (2 * j)))]) (rest := []) ⟨hx, hb, hml, hown, hts⟩ (kX0_areAllTrue l D q cA S hok (k_tl (nI (2 * j)))) (cwV 1 hts (gd_V bw_51 bw_52 bw_410 bw_1 bw_53) rfl rfl rfl (by decide +kernel) ⟨Nat.le_of_ble_eq_true rfl, Nat.le_of_ble_eq_true rfl⟩) (va_recv (ci := 0) (q0 := 0) hK hP rfl rfl) hP hK rfl hl.1 rfl (Nat.le_of_ble_eq_true rfl) dX0_satisfiable_14 ⟨Nat.zero_le _, Nat.zero_le _⟩ ?_
    refine lv_if_eq (tgt := 22) hx hb dX0_satisfiable_17 (by decide) (fun hc17 => ?_) (fun hc17 => ?_)
    · have hc17 := kb_0.mp hc17
      refine lv_iload_n hx hb dX0_satisfiable_22 rfl (lv_at hl 0 rfl) ?_
      refine lv_iconst (v := 1) hx hb dX0_satisfiable_23 (by decide) ?_
      refine xc_s (As := [.int 1]) (rest := [.int (nI (2 * j))]) ⟨hx, hb, hml, hown, hts⟩ (kX0_positive l 1) (va_cwS 1 hts (gd_S bw_54 bw_55 bw_1 bw_56) rfl rfl rfl (by decide +kernel) ⟨Nat.le_of_ble_eq_true rfl, Nat.le_of_ble_eq_true rfl⟩) rfl hl.1 rfl (Nat.le_of_ble_eq_true rfl) dX0_satisfiable_24 ⟨Nat.zero_le _, Nat.zero_le _⟩ ?_
      refine lv_iadd hx hb dX0_satisfiable_27 ?_
      refine lv_topi (fun z1 ez1 => ?_)
      obtain rfl : z1 = nI (2 * (j + 1)) := ez1.trans st_2
      refine lv_istore_n (lv' := [(1, .int (nI (2 * (j + 1)))), (0, .ref (q 0))]) hx hb dX0_satisfiable_28 rfl hl (by decide) rfl (fun ls hl => ?_)
      refine lv_goto (tgt := 2) hx hb dX0_satisfiable_29 (by decide) ?_
      exact ih2 (j + 1) _ ⟨lv_sub hl [0, 1] rfl, (by omega), hq.trans (q_up_f hlt (by simp [hc17]))⟩ (by omega)
    · have hc17 := kb_n0.mp hc17
      refine lv_iconst (v := 1) hx hb dX0_satisfiable_20 (by decide) ?_
      have hv9 : k_b (q_sat (vXL S)) = 1 := by rw [show q_sat (vXL S) = (q_up (fun j => q_aat (vXL S) (k_tl (nI (2 * j)))) (1024 - 0) 0).isSome from rfl, hq, q_up_t hlt hc17]; rfl
      exact W.zret (v := 1) hx hb hr (by rfl) (fun t ht hW => ⟨by rw [hv9], ht⟩) (fun _ h => nomatch h) dX0_satisfiable_21
