/-! Throwing: contracts of methods that throw and never answer (xt_M), the throw itself, calls that let it through. -/
abbrev xNm : List String := ["java/lang/RuntimeException", "java/lang/Exception"]
def xEs : List String := ["java/lang/IllegalArgumentException", "java/lang/IllegalStateException", "java/lang/IndexOutOfBoundsException"]
def xDs : List String := ["java/lang/RuntimeException", "java/lang/Exception", "java/lang/Throwable"]
abbrev xNg (E : String) : List Cond := [.castable E E, .declares (Bundle.initS "java/lang/RuntimeException"), .declares (Bundle.initS "java/lang/Exception"), .declares (Bundle.initS "java/lang/Throwable")]
/-- what a throw wants of the tables beside the good words -/
def xt_N (U : State) : Prop := (∀ p ∈ xStr, ∃ sa : Nat, vk_R RX0 p.1 p.2 sa U) ∧ (∀ E ∈ xEs, va_Nw (.castable E E) U) ∧ (∀ X ∈ xDs, va_Nw (.declares (Bundle.initS X)) U) ∧ va_Nc "java/lang/IllegalStateException" "java/lang/IllegalArgumentException" U
/-- .. and of the heap: the two statics of Throwable lie outside of what is written -/
def xt_X (A : Nat → Prop) (U : State) (H : Heap) : Prop := vx_Zq Bundle.tN "UNASSIGNED_STACK" Bundle.steD A U H ∧ vx_Zq Bundle.tN "SUPPRESSED_SENTINEL" Bundle.listD A U H ∧ xt_N U
theorem xt_N.warm {s U : State} (hW : s.WarmedH U.vm) (h : xt_N s) : xt_N U :=
  ⟨fun p hp => (h.1 p hp).elim fun sa z => ⟨sa, vk_R.warm hW z⟩, fun E hE => va_Nw.warmC hW (h.2.1 E hE), fun X hX => va_Nw.warmD hW (h.2.2.1 X hX), h.2.2.2.moved hW.alike⟩
theorem xt_N.same {u U : State} (e : U.vm = u.vm) (h : xt_N u) : xt_N U :=
  ⟨fun p hp => (h.1 p hp).elim fun sa z => ⟨sa, vk_R.same e z⟩, fun E hE => va_Nw.same rfl e.symm (h.2.1 E hE), fun X hX => va_Nw.same rfl e.symm (h.2.2.1 X hX), h.2.2.2.moved (by rw [e]; exact Vm.Alike.refl _)⟩
theorem xt_X.to {A A1 : Nat → Prop} {s U : State} {H0 H : Heap} {locs : List Loc} (h : xt_X A s H0) (hS : va_S A H0 H locs) (hA : ∀ q, A1 q → A q) (hW : s.WarmedH U.vm) : xt_X A1 U H :=
  ⟨((h.1.kept hS.2.1).narrow hA).moved hW.alike, ((h.2.1.kept hS.2.1).narrow hA).moved hW.alike, h.2.2.warm hW⟩
abbrev xt_P (D : va_G) (cl : List vw_C) (tys : List (ClassId × FieldType)) (w : va_W) (sz : Nat) : State → Prop := fun U => xw_P D cl tys w sz U ∧ xt_X (va_A w sz) U U.heap
abbrev xt_B {Sx : Type} (E : String) (D : va_G) (cl : List vw_C) (tys : List (ClassId × FieldType)) (A : Nat → Prop) (w1 : Sx → va_W) : String → Sx → State → Prop := fun E1 u t => E1 = E ∧ va_P D cl (w1 u) t.heap ∧ va_K D cl tys t ∧ va_D A (w1 u)
abbrev xt_M {Sx : Type} (l : Launch) (y : MethodName) (ws : List Cond) (rm : Room) (D : va_G) (cl : List vw_C) (tys : List (ClassId × FieldType)) (av : List Value) (w : va_W) (sz : Nat) (E : String) (post : Sx → Prop) (w1 : Sx → va_W) : Prop :=
  vx_Met l y ws rm (va_Pc av (xt_P D cl tys w sz)) (fun _ _ _ _ => False) (vx_X post (xt_B E D cl tys (va_A w sz) w1) (va_A w sz)) 1 6 (va_A w sz)
theorem xt_blind (D : va_G) (cl : List vw_C) (tys : List (ClassId × FieldType)) (av : List Value) (w : va_W) (sz : Nat) : FrameBlind (va_Pc av (xt_P D cl tys w sz)) := fun a U g mk q =>
  ⟨q.1, ⟨q.2.1.1, q.2.1.2.1, va_K.moved (u := U) (U := U.calling g mk a) (Vm.Alike.refl U.vm) q.2.1.2.2.1, q.2.1.2.2.2⟩, q.2.2.1.moved (U := U.calling g mk a) (Vm.Alike.refl U.vm), q.2.2.2.1.moved (U := U.calling g mk a) (Vm.Alike.refl U.vm), q.2.2.2.2.same (U := U.calling g mk a) rfl⟩
section XT
variable {p : Program} {l : Launch} {e : Env} {R : Room} {s : State} {m : MethodId} {args : Array Value} {below : List Frame} {meth : Method} {c : Code} {H : Heap} {locs : List Loc}
variable {cc bytes : ByteArray} {pc : Nat} {ls : Array Slot} {rest As : List Value} {D : va_G} {cl : List vw_C} {A : Nat → Prop} {b : Nat} {tys : List (ClassId × FieldType)} {ws : va_W}
variable {y : MethodName} {maxL nL n index : Nat} {ret : Option FieldType} {wsc Ts : List Cond} {rm : Room} {C : String}
theorem xt_words {E : String} {ic : Nat} {x : Cond} (hts : ∀ w ∈ x :: BW, w.before args s = true) (hN : xt_N s) (hE : E ∈ xEs) (h1 : ∀ w ∈ (vx_atS RX0 ic E xNm).filter goodWord, w ∈ BW) (h2 : ∀ w ∈ (vx_atS RX0 ic E xNm).filter (fun w => !goodWord w), w ∈ xNg E) : ∀ w ∈ vx_atS RX0 ic E xNm, w.before args s = true :=
  vx_hat (fun w hw => hts w (List.mem_cons_of_mem _ (h1 w hw))) h2 (vx_c (va_Nw.use rfl (hN.2.1 E hE)) (vx_c (va_Nw.use rfl (hN.2.2.1 _ (by decide))) (vx_c (va_Nw.use rfl (hN.2.2.1 _ (by decide))) (vx_c (va_Nw.use rfl (hN.2.2.1 _ (by decide))) vx_n))))
/-- 'throw new E(text)' -/
theorem xt_thr {Sx : Type} {E text : String} {ik is ic : Nat} {post : Sx → Prop} {w1 : Sx → va_W} {Qc : Array Value → State → Outcome → State → Prop} {x : Cond}
    (hl9 : l.stackTraces = false) (hX : xt_X A s s.heap) (hE : E ∈ xEs) (hfit : Bundle.fit E = true) (hst : (is, text) ∈ xStr) (h1 : ∀ w ∈ (vx_atS RX0 ic E xNm).filter goodWord, w ∈ BW) (h2 : ∀ w ∈ (vx_atS RX0 ic E xNm).filter (fun w => !goodWord w), w ∈ xNg E)
    (hk : Cond.classLink RX0 ik E ∈ BW) (hi : Cond.initialized E ∈ BW)
    (hexec : p.tables.exec = Jvm.exec) (hb : c.code = cc) (hml : c.maxLocals = nL) (hts : ∀ w ∈ x :: BW, w.before args s = true) (hown : s.vm.findClass RX0 = some m.cls) (hlocks : meth.locks = false) (hnt : ∀ x ∈ c.exceptionTable.toList, False)
    (hls : ls.size = nL) (hK : va_K D cl tys s) (hS : va_S A s.heap H locs) (u : Sx) (hP : va_P D cl (w1 u) H) (hD : va_D A (w1 u)) (hpo : post u)
    (d0 : decode cc pc = .ok (.new ik, 3)) (d3 : decode cc (pc + 3) = .ok (.dup, 1)) (d4 : decode cc (pc + 4) = .ok (.ldc is, 2)) (d6 : decode cc (pc + 6) = .ok (.invokespecial ic, 3)) (d9 : decode cc (pc + 9) = .ok (.athrow, 1))
    (hRf : 5 < R.frames) (hRl : (rest.map fun v => v.category).sum + 82 ≤ R.locals) (hRc : 1 ≤ R.cells) (hRs : 6 ≤ R.slots) :
    W p l e R s m args below meth c H locs 0 0 (vx_MQ below Qc (vx_X post (xt_B E D cl tys A w1) A) args s 1 6 A) (F0 m pc ls rest) := by
  obtain ⟨sa, hsa⟩ := hX.2.2.1 (is, text) hst
  have hgd : ∀ w ∈ BW, vx_ot w = true := fun w hw => by
    unfold vx_ot
    rw [List.all_eq_true.mp bw_good w hw, Bool.or_true]
  refine vx_throwS (names := xNm) (text := text) (sa := sa) hexec hb hl9 hown hfit (by decide) (hts _ (List.mem_cons_of_mem _ hk)) (hts _ (List.mem_cons_of_mem _ hi)) hsa (xt_words hts hX.2.2 hE h1 h2) ?_ hX.1 hX.2.1 hS (hls.trans hml.symm) d0 d3 d4 d6 d9
    (fun x hx => (hnt x hx).elim) hRf hRl (by omega) (by omega) hlocks ?_ hS.2.2 (Nat.le_refl _) (Nat.le_refl _)
  · intro w hw
    rcases List.mem_cons.mp hw with rfl | hw
    · exact hgd _ hk
    · rcases List.mem_cons.mp hw with rfl | hw
      · exact hgd _ hi
      · by_cases g : goodWord w = true
        · unfold vx_ot
          rw [g, Bool.or_true]
        · have z := h2 w (List.mem_filter.mpr ⟨hw, by simpa using g⟩)
          simp only [List.mem_cons, List.not_mem_nil, or_false] at z
          rcases z with rfl | rfl | rfl | rfl <;> rfl
  · intro t hvm hz hq
    exact ⟨u, hpo, ⟨rfl, hP.kept (fun k q hk => hq q.1 (hP k q hk).lt), va_K.moved hvm hK, hD⟩, Nat.le_trans hS.1 hz, fun q h1 h2 => (hq q (Nat.lt_of_lt_of_le h1 hS.1)).trans (hS.2.1 q h1 h2)⟩
/-- a call that throws, let through -/
theorem xt_pass {Sx : Type} {E : String} {px post : Sx → Prop} {w1 : Sx → va_W} {Qc : Array Value → State → Outcome → State → Prop} {own : String} (S : CallFix p m c cc nL s args Ts own) (hM : xt_M l y wsc rm D cl tys (.ref b :: As) ws H.size E px w1) (cw : CallW R s args own C index y bytes maxL ret wsc rm 1 6 n)
    (hrv : ∃ cellB : Cell, H[b]? = some cellB ∧ cellB.vm.isStatics = false ∧ s.vm.findClass C = some cellB.cls) (hX : xt_X A s s.heap) (hP : va_P D cl ws H) (hK : va_K D cl tys s) (hD : va_D A ws) (hS : va_S A s.heap H locs) (hA : ∀ q, s.heap.size ≤ q → A q) {st : List Value} (hn : As.length = n) (hsize : ls.size = nL) (hst : st = As.reverse ++ .ref b :: rest) (hW : (rest.map fun v => v.category).sum ≤ 8) (hdg : decode cc pc = .ok (.invokevirtual index, 3)) (hf : 0 + 1 ≤ R.cells ∧ 0 + 6 ≤ R.slots)
    (hlocks : meth.locks = false) (hnt : ∀ x ∈ c.exceptionTable.toList, False) (himp : ∀ u, px u → post u) :
    W p l e R s m args below meth c H locs 0 0 (vx_MQ below Qc (vx_X post (xt_B E D cl tys A w1) A) args s 1 6 A) (F0 m pc ls st) := by
  have hFc : ∀ q, va_A ws H.size q → A q := fun q h => by
    rcases h with ⟨k, e1, h⟩ | h
    · exact hD.2 k (q, e1) h
    · exact hA q (Nat.le_trans hS.1 h)
  have hr := vx_runV (below := below) (e := e) (meth := meth) (locs := locs) (cells := 0) (slots := 0) (g := F0 m pc ls st) S hM cw ⟨xt_blind _ _ _ _ _ _, hrv, fun U hU hW => ⟨rfl, ⟨by rw [hU], by rw [hU]; exact hP, va_K.moved hW.alike hK, hD.weaken (fun _ _ _ _ => trivial)⟩, by rw [hU]; exact hX.to hS hFc hW⟩⟩ rfl hn hsize hst (lv_room hW) hdg hf
  intro T hT X
  rcases hr T hT X with ⟨v, st₀, t, T', L, h0, X', hL, e1, e2, hbad, st⟩ | ⟨q, st₀, t, T', L, E1, ce, h0, X', hL, e1, e2, ⟨u, hp, ⟨rfl, hb1, hb2, hb3⟩, hF⟩, hce, hcv, hcl, st⟩
  · exact hbad.elim
  · obtain ⟨k1, k2, k3⟩ := vx_keep h0 e1 hS (fun q _ h => hFc q h) hFc hL hF
    have hb1' : va_P D cl (w1 u) T'.heap := by rw [e1]; exact hb1
    obtain ⟨t2, a1, b1⟩ := vx_out (p := p) (l := l) (e := e) (R := R) (s := s) (m := m) (args := args) (below := below) (meth := meth) (c := c) (H := T'.heap) (locs := locs ++ L) (cells := 0 + 1) (slots := 0 + 6) (ls := ls) (rest := rest) (Qc := Qc) (XC := vx_X post (xt_B E1 D cl tys A w1) A) (free := A) (pc := pc) (E := E1) (ce := ce) (q := q) (mc := 1) (ms := 6)
      (fun x hx => (hnt x hx).elim) hlocks (by rw [e1]; exact hce) hcv hcl (fun t9 ht9 hvm9 => ⟨u, himp u hp, ⟨rfl, by rw [ht9]; exact hb1', va_K.moved hvm9 hK, hb3.weaken (fun k z _ h => hFc z.1 h)⟩, k3.F ht9⟩) k3.2.2 (Nat.le_refl _) (Nat.le_refl _) T' rfl X'
    exact ⟨t2, st.trans a1, b1⟩
end XT
/-! A turn that finds the stack full. -/
theorem vf_0 {L T : List cC} (h : (v_turn 0 L T).1 = -1) : p_unit L ≠ none ∧ ¬ T.length < 200 := by
  cases hu : p_unit L with
  | none => rw [vt_0n hu] at h; exact absurd h (show ¬ (0 : Int32) = -1 by decide)
  | some k =>
    refine ⟨Option.some_ne_none _, fun z => ?_⟩
    rw [vt_0s hu z] at h
    exact absurd h (show ¬ (1 : Int32) = -1 by decide)
theorem vf_3 {L T : List cC} (h : (v_turn 3 L T).1 = -1) : q_blk L ≠ none ∧ ¬ T.length < 200 := by
  cases hu : q_blk L with
  | none => rw [vt_3n hu] at h; exact absurd h (show ¬ (0 : Int32) = -1 by decide)
  | some k =>
    refine ⟨Option.some_ne_none _, fun z => ?_⟩
    rw [vt_3s hu z] at h
    exact absurd h (show ¬ (1 : Int32) = -1 by decide)
theorem vf_1 {L T : List cC} : (v_turn 1 L T).1 ≠ -1 := by
  cases hu : q_sub L with
  | none => rw [vt_1n hu]; exact (show ¬ (0 : Int32) = -1 by decide)
  | some k => rw [vt_1s hu]; exact (show ¬ (1 : Int32) = -1 by decide)
theorem vf_2 {L T : List cC} : (v_turn 2 L T).1 ≠ -1 := by
  cases hu : q_str L with
  | none => rw [vt_2n hu]; exact (show ¬ (0 : Int32) = -1 by decide)
  | some k =>
    cases hd : q_st1 L k with
    | none =>
      show (match q_str L with
        | none => ((0 : Int32), L, T)
        | some c => match q_st1 L c with
          | none => (0, L, T)
          | some d => (1, q_take L c (k_sl (q_set L c) (q_set L d)), T)).1 ≠ -1
      simp only [hu, hd]
      exact (show ¬ (0 : Int32) = -1 by decide)
    | some d => rw [vt_2s hu hd]; exact (show ¬ (1 : Int32) = -1 by decide)
theorem vf_same {w : Nat} {L T : List cC} (h : (v_turn w L T).1 = -1) : v_turn w L T = (-1, L, T) := by
  match w with
  | 0 =>
    obtain ⟨k, hk⟩ := some_of_ne (vf_0 h).1
    exact vt_0f hk (vf_0 h).2
  | 1 => exact absurd h vf_1
  | 2 => exact absurd h vf_2
  | n + 3 =>
    have h3 : (v_turn 3 L T).1 = -1 := h
    obtain ⟨k, hk⟩ := some_of_ne (vf_3 h3).1
    exact vt_3f hk (vf_3 h3).2
