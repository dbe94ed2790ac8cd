/-! Calls on a part of the caller's world: ws the callee's part, pl the rest. -/
theorem ap_l {α : Type} {a b : List α} {k : Nat} {x : α} (h : a[k]? = some x) : (a ++ b)[k]? = some x := by
  rw [List.getElem?_append_left (List.getElem?_eq_some_iff.mp h).1]
  exact h
theorem ap_r {α : Type} {a b : List α} {k : Nat} {x : α} (h : b[k]? = some x) : (a ++ b)[a.length + k]? = some x := by
  rw [List.getElem?_append_right (Nat.le_add_right _ _), Nat.add_sub_cancel_left]
  exact h
section PP
variable {D : va_G} {cl : List vw_C} {ws pl : va_W} {H H1 : Heap} {A : Nat → Prop}
theorem pt_PL (h : va_P D cl (ws ++ pl) H) : va_P D cl ws H := fun k q hk => h k q (ap_l hk)
theorem pt_PR (h : va_P D cl (ws ++ pl) H) : va_P D cl pl H := fun k q hk => h (ws.length + k) q (ap_r hk)
theorem pt_DL (h : va_D A (ws ++ pl)) : va_D A ws := ⟨fun i j p q hi hj e => h.1 i j p q (ap_l hi) (ap_l hj) e, fun k q hk => h.2 k q (ap_l hk)⟩
theorem pt_DR (h : va_D A (ws ++ pl)) : va_D A pl := ⟨fun i j p q hi hj e => by
  have := h.1 (ws.length + i) (ws.length + j) p q (ap_r hi) (ap_r hj) e
  omega, fun k q hk => h.2 (ws.length + k) q (ap_r hk)⟩
theorem pt_dis (h : va_D A (ws ++ pl)) {i j : Nat} {p q : Nat × va_E} (hi : ws[i]? = some p) (hj : pl[j]? = some q) : p.1 ≠ q.1 := fun e => by
  have h1 := h.1 i (ws.length + j) p q (ap_l hi) (ap_r hj) e
  have h2 := (List.getElem?_eq_some_iff.mp hi).1
  omega
theorem pt_out (hP : va_P D cl (ws ++ pl) H) (hD : va_D A (ws ++ pl)) {j : Nat} {q : Nat × va_E} (hj : pl[j]? = some q) : q.1 < H.size ∧ ¬ va_A ws H.size q.1 := by
  have h1 : q.1 < H.size := (pt_PR hP j q hj).lt
  refine ⟨h1, fun z => ?_⟩
  rcases z with ⟨k, e1, hk⟩ | z
  · exact pt_dis hD hk hj rfl
  · omega
/-- behind a call on the part ws -/
theorem pt_join {w1 : va_W} (hP : va_P D cl (ws ++ pl) H) (hD : va_D A (ws ++ pl)) (hP1 : va_P D cl w1 H1) (hD1 : va_D (va_A ws H.size) w1) (hFc : ∀ q, va_A ws H.size q → A q) (hk : ∀ q : Nat, q < H.size → ¬ va_A ws H.size q → H1[q]? = H[q]?) : va_P D cl (w1 ++ pl) H1 ∧ va_D A (w1 ++ pl) := by
  refine ⟨va_P.app hP1 ((pt_PR hP).kept (fun k q hq => hk q.1 (pt_out hP hD hq).1 (pt_out hP hD hq).2)), va_D.app (hD1.weaken (fun k q _ h => hFc q.1 h)) (pt_DR hD) (fun i j p q hi hj e => ?_)⟩
  have z := hD1.2 i p hi
  rw [e] at z
  exact (pt_out hP hD hj).2 z
theorem pt_P2 {a b : va_W} (h : va_P D cl (a ++ b) H) : va_P D cl (b ++ a) H := va_P.app (pt_PR h) (pt_PL h)
theorem pt_D2 {a b : va_W} (h : va_D A (a ++ b)) : va_D A (b ++ a) := va_D.app (pt_DR h) (pt_DL h) (fun i j p q hi hj e => pt_dis h hj hi e.symm)
theorem pt_fc {H0 : Heap} {locs : List Loc} (hD : va_D A (ws ++ pl)) (hS : va_S A H0 H locs) (hA : ∀ q, H0.size ≤ q → A q) : ∀ q, va_A ws H.size q → A q := fun q h => by
  rcases h with ⟨k, e1, h⟩ | h
  · exact (pt_DL hD).2 k (q, e1) h
  · exact hA q (Nat.le_trans hS.1 h)
end PP
section XP
variable {p : Program} {l : Launch} {e : Env} {R : Room} {s : State} {m : MethodId} {args : Array Value} {below : List Frame} {meth : Method} {c : Code} {H : Heap} {locs : List Loc} {cells slots : Nat} {Q : State → Prop}
variable {cc bytes : ByteArray} {pc : Nat} {ls : Array Slot} {rest As : List Value} {D : va_G} {cl : List vw_C} {A : Nat → Prop} {b : Nat} {tys : List (ClassId × FieldType)} {ws pl : va_W} {H0 : Heap}
variable {y : MethodName} {maxL nL n index mc ms : Nat} {ret : Option FieldType} {wsc Ts : List Cond} {rm : Room} {own C : String}
/-- a call on an object that writes in its part of the world and answers an int -/
theorem xp_wi {Sx : Type} {post : Int32 → Sx → Prop} {w1 : Sx → va_W} (S : CallFix p m c cc nL s args Ts own) (hM : xw_Mi l y wsc rm D cl tys (.ref b :: As) ws H.size post w1) (cw : CallW R s args own C index y bytes maxL ret wsc rm 0 0 n) (hrv : ∃ cellB : Cell, H[b]? = some cellB ∧ cellB.vm.isStatics = false ∧ s.vm.findClass C = some cellB.cls)
    (hP : va_P D cl (ws ++ pl) H) (hK : va_K D cl tys s) (hD : va_D A (ws ++ pl)) (hS : va_S A H0 H locs) (hA : ∀ q, H0.size ≤ q → A q) {st : List Value} (hn : As.length = n) (hsize : ls.size = nL) (hst : st = As.reverse ++ .ref b :: rest) (hW : (rest.map fun v => v.category).sum ≤ 8) (hdg : decode cc pc = .ok (.invokevirtual index, 3)) (hf : cells + 0 ≤ R.cells ∧ slots + 0 ≤ R.slots)
    (kk : ∀ (r1 : Int32) (u : Sx) (H1 : Heap) (locs1 : List Loc), post r1 u → va_P D cl (w1 u ++ pl) H1 → va_D A (w1 u ++ pl) → va_S A H0 H1 locs1 → W p l e R s m args below meth c H1 locs1 cells slots Q (F0 m (pc + 3) ls (.int r1 :: rest))) : W p l e R s m args below meth c H locs cells slots Q (F0 m pc ls st) := by
  have hFc := pt_fc hD hS hA
  refine va_calli (va_runV (g := F0 m pc ls st) S hM cw ⟨xw_blind _ _ _ _ _ _, hrv, fun U hU hW => ⟨rfl, by rw [hU], by rw [hU]; exact pt_PL hP, va_K.moved hW.alike hK, (pt_DL hD).weaken (fun _ _ _ _ => trivial)⟩⟩ rfl hn hsize hst (lv_room hW) hdg hf) hS (fun q _ h => hFc q h) hFc (fun r1 u t H1 locs1 ht hvm hpo hB hz1 hk1 hS1 => ?_)
  obtain ⟨hP1, -, hD1⟩ := hB
  rw [ht] at hP1
  obtain ⟨z1, z2⟩ := pt_join hP hD hP1 hD1 hFc hk1
  exact kk r1 u H1 locs1 hpo z1 z2 hS1
/-- a call that throws, caught here by the row x of the table -/
theorem xp_t {Sx : Type} {E name : String} {px : Sx → Prop} {w1 : Sx → va_W} (S : CallFix p m c cc nL s args Ts own) (hM : xt_M l y wsc rm D cl tys (.ref b :: As) ws H.size E px w1) (cw : CallW R s args own C index y bytes maxL ret wsc rm 1 6 n) (hrv : ∃ cellB : Cell, H[b]? = some cellB ∧ cellB.vm.isStatics = false ∧ s.vm.findClass C = some cellB.cls)
    (hX : xt_X A s s.heap) (hP : va_P D cl (ws ++ pl) H) (hK : va_K D cl tys s) (hD : va_D A (ws ++ pl)) (hS : va_S A s.heap H locs) (hA : ∀ q, s.heap.size ≤ q → A q) {st : List Value} (hn : As.length = n) (hsize : ls.size = nL) (hst : st = As.reverse ++ .ref b :: rest) (hW : (rest.map fun v => v.category).sum ≤ 8) (hdg : decode cc pc = .ok (.invokevirtual index, 3)) (hf : cells + 1 ≤ R.cells ∧ slots + 6 ≤ R.slots)
    (pre : List ExceptionTableEntry) (x : ExceptionTableEntry) (suf : List ExceptionTableEntry) (hsplit : c.exceptionTable.toList = pre ++ x :: suf)
    (hpass : ∀ z ∈ pre, covers z pc = false ∨ (z.catchType ≠ 0 ∧ ∃ nm : String, (Cond.classLink own z.catchType nm).before args s = true ∧ va_Nc E nm s)) (hcov : covers x pc = true) (h0 : x.catchType ≠ 0) (hlink : (Cond.classLink own x.catchType name).before args s = true) (hcast : (Cond.castable E name).before args s = true)
    (kk : ∀ (u : Sx) (q9 : Nat) (H1 : Heap) (locs1 : List Loc), px u → va_P D cl (w1 u ++ pl) H1 → va_D A (w1 u ++ pl) → va_S A s.heap H1 locs1 → W p l e R s m args below meth c H1 locs1 (cells + 1) (slots + 6) Q (F0 m x.handlerPc ls [.ref q9])) : W p l e R s m args below meth c H locs cells slots Q (F0 m pc ls st) := by
  have hFc := pt_fc hD hS hA
  have hr := vx_runV (below := below) (e := e) (meth := meth) (locs := locs) (cells := cells) (slots := slots) (g := F0 m pc ls st) S hM cw ⟨xt_blind _ _ _ _ _ _, hrv, fun U hU hW => ⟨rfl, ⟨by rw [hU], by rw [hU]; exact pt_PL hP, va_K.moved hW.alike hK, (pt_DL hD).weaken (fun _ _ _ _ => trivial)⟩, by rw [hU]; exact hX.to hS hFc hW⟩⟩ rfl hn hsize hst (lv_room hW) hdg hf
  intro T hT X
  rcases hr T hT X with ⟨v, st₀, t, T', L, g0, X', hL, e1, e2, hbad, st⟩ | ⟨q, st₀, t, T', L, E1, ce, g0, X', hL, e1, e2, ⟨u, hp, ⟨rfl, hb1, hb2, hb3⟩, hF⟩, hce, hcv, hcl, st⟩
  · exact hbad.elim
  · obtain ⟨k1, k2, k3⟩ := vx_keep g0 e1 hS (fun q _ h => hFc q h) hFc hL hF
    have hb1' : va_P D cl (w1 u) T'.heap := by rw [e1]; exact hb1
    obtain ⟨z1, z2⟩ := pt_join hP hD hb1' hb3 hFc k2
    have hc := vx_catch (p := p) (l := l) (e := e) (R := R) (below := below) (meth := meth) (locs := locs ++ L) (cells := cells + 1) (slots := slots + 6) (Q := Q) (ls := ls) (rest := rest) (pc := pc) (H := T'.heap) S.2.2.2.1 pre x suf hsplit hpass hcov h0 hlink hcast (by rw [e1]; exact hce) hcv hcl (kk u q T'.heap (locs ++ L) hp z1 z2 k3)
    obtain ⟨t2, a1, b1⟩ := hc T' rfl X'
    exact ⟨t2, st.trans a1, b1⟩
theorem xw_wide {g : JFrame} {k n9 : Nat} (h1 : cells ≤ k) (h2 : slots ≤ n9) (kk : W p l e R s m args below meth c H locs k n9 Q g) : W p l e R s m args below meth c H locs cells slots Q g := fun T hT X => kk T hT (stand_widen X h1 h2)
end XP
