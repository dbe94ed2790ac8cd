/-! The law's own frame: its cells, what it knows all the time, calls of its helpers and of the reference. -/
abbrev wL (q : Nat → Nat) (cA : ClassId) (S : XS) (a : Nat) (cL : ClassId) (f : Nat → Int64) (q2 : Nat → Nat) (cB : ClassId) (T : MS) : va_W := (wX q cA S ++ xl a cL f) ++ wM q2 cB T
abbrev tyL (cA cL cB : ClassId) : List (ClassId × FieldType) := [(cA, .int), (cL, .long), (cB, .int)]
abbrev lvL (b a i : Nat) (q q2 : Nat → Nat) : List (Nat × Value) := [(4, .int (nI (3 * i))), (3, .ref a), (2, .ref (q2 0)), (1, .ref (q 0)), (0, .ref b)]
abbrev aL (s : State) : Nat → Prop := fun z => s.heap.size ≤ z
/-- what holds from the loop's start on -/
def lE (p : Program) (l : Launch) (s : State) (m : MethodId) (c : Code) (b L : Nat) (xs : Nat → Int32) (D : va_G) (cA cL cB : ClassId) : Prop :=
  p.tables.exec = Jvm.exec ∧ c.code = cL_law ∧ c.maxLocals = 7 ∧ s.vm.findClass RL = some m.cls ∧ (∀ w ∈ Cond.tt :: BW, w.before #[Value.ref b] s = true) ∧ va_X b L xs s s.heap ∧ b < s.heap.size ∧ va_K D vwCl (tyL cA cL cB) s ∧ xt_X (aL s) s s.heap ∧ l.stackTraces = false ∧ L ≤ 1536
/-- behind one call: the same for what has come -/
def lK (p : Program) (l : Launch) (e : Env) (s : State) (m : MethodId) (below : List Frame) (meth : Method) (c : Code) (Q : State → Prop) (b : Nat) (D : va_G) (q q2 : Nat → Nat) (cA cL cB : ClassId) (a i cells slots : Nat) : Prop :=
  ∀ (S : XS) (T : MS) (f : Nat → Int64) (H : Heap) (locs : List Loc) (ls : Array Slot), LI S T → lv_has ls 7 (lvL b a i q q2) → va_P D vwCl (wL q cA S a cL f q2 cB T) H → va_D (aL s) (wL q cA S a cL f q2 cB T) → va_S (aL s) s.heap H locs → W p l e room_1 s m #[Value.ref b] below meth c H locs (cells + 1) (slots + 6) Q (F0 m 674 ls [])
theorem gd_SW {x : Cond} {own : String} {idx n : Nat} {y : MethodName} {cc : ByteArray} {r : Option FieldType} {hh : List (Nat × Nat × Nat × Nat)} (h1 : Cond.methodLink own idx y ∈ BW) (h2 : Cond.static y ∈ BW) (h3 : Cond.initialized y.cls ∈ BW) (h4 : Cond.codeWith y cc n r hh ∈ BW) : GoodIn (x :: BW) (va_wsS own idx y (Cond.codeWith y cc n r hh :: BW)) := by
  intro w hw
  unfold va_wsS at hw
  rcases List.mem_append.mp hw with h | h
  · simp only [List.mem_cons, List.not_mem_nil, or_false] at h
    rcases h with rfl | rfl | rfl
    · exact gd_mem h1
    · exact gd_mem h2
    · exact gd_mem h3
  · rcases List.mem_cons.mp h with rfl | h
    · exact gd_mem h4
    · exact gd_mem h
section LW
variable {p : Program} {l : Launch} {e : Env} {R : Room} {s : State} {m : MethodId} {args : Array Value} {below : List Frame} {meth : Method} {c : Code} {H : Heap} {locs : List Loc} {cells slots : Nat} {Q : State → Prop}
variable {cc bytes : ByteArray} {pc : Nat} {ls : Array Slot} {rest As : List Value} {D : va_G} {b L a i : Nat} {xs : Nat → Int32} {q q2 : Nat → Nat} {cA cL cB : ClassId} {S : XS} {T : MS} {f : Nat → Int64}
variable {y : MethodName} {maxL nL n index : Nat} {ret : Option FieldType} {wsc Ts : List Cond} {rm : Room} {own C : String}
/-- an int of the script -/
theorem ls_ld {A : Nat → Prop} (hexec : p.tables.exec = Jvm.exec) (hb : c.code = cc) (hX : va_X b L xs s s.heap) (hbl : b < s.heap.size) (hbA : ¬ A b) (hS : va_S A s.heap H locs) (k : Nat) (hk : k < L) (hL : L ≤ 1536) (hdg : decode cc pc = .ok (.iaload, 1))
    (kk : W p l e R s m args below meth c H locs cells slots Q (F0 m (pc + 1) ls (.int (xs k) :: rest))) : W p l e R s m args below meth c H locs cells slots Q (F0 m pc ls (.int (nI k) :: .ref b :: rest)) := by
  refine va_sld hexec hb hX hbl hbA hS (vp_in_nI hk (by omega)) hdg ?_
  rw [nI_clamp (by omega)]
  exact kk
/-- a call of one of the law's helpers -/
theorem ls_h {hh : List (Nat × Nat × Nat × Nat)} {post : Int32 → XS × (Nat → Int64) → Prop} (CF : CallFix p m c cc nL s args Ts own) (hM : xh_M l y wsc rm D As q cA a cL S f H.size post) (cw : vx_CSW R s args own index y bytes maxL ret hh wsc rm 1 6 n)
    (hX : xt_X (aL s) s s.heap) (hK : va_K D vwCl (tyL cA cL cB) s) (hP : va_P D vwCl (wL q cA S a cL f q2 cB T) H) (hD : va_D (aL s) (wL q cA S a cL f q2 cB T)) (hS : va_S (aL s) s.heap H locs) {st : List Value} (hn : As.length = n) (hsize : ls.size = nL) (hst : st = As.reverse ++ rest) (hW : (rest.map fun v => v.category).sum ≤ 8) (hdg : decode cc pc = .ok (.invokestatic index, 3)) (hf : cells + 1 ≤ R.cells ∧ slots + 6 ≤ R.slots)
    (kk : ∀ (r1 : Int32) (z : XS × (Nat → Int64)) (H1 : Heap) (locs1 : List Loc), post r1 z → va_P D vwCl (wL q cA z.1 a cL z.2 q2 cB T) H1 → va_D (aL s) (wL q cA z.1 a cL z.2 q2 cB T) → va_S (aL s) s.heap H1 locs1 → W p l e R s m args below meth c H1 locs1 (cells + 1) (slots + 6) Q (F0 m (pc + 3) ls (.int r1 :: rest))) : W p l e R s m args below meth c H locs cells slots Q (F0 m pc ls st) := by
  have hFc := pt_fc hD hS (fun _ h => h)
  refine va_calli (vx_runSW (g := F0 m pc ls st) CF hM cw ⟨xt_blind _ _ _ _ _ _, fun U hU hW => ⟨rfl, ⟨by rw [hU], by rw [hU]; exact pt_PL hP, va_K.moved hW.alike (hK.sub [0, 1] rfl), (pt_DL hD).weaken (fun _ _ _ _ => trivial)⟩, by rw [hU]; exact hX.to hS hFc hW⟩⟩ rfl hn hsize hst (lv_room hW) hdg hf) hS (fun q _ h => hFc q h) hFc (fun r1 u t H1 locs1 ht hvm hpo hB hz1 hk1 hS1 => ?_)
  obtain ⟨hP1, -, hD1⟩ := hB
  rw [ht] at hP1
  obtain ⟨z1, z2⟩ := pt_join hP hD hP1 hD1 hFc hk1
  exact kk r1 u H1 locs1 hpo z1 z2 hS1
/-- a call on the reference -/
theorem ls_m {post : Int32 → MS → Prop} (CF : CallFix p m c cc nL s args Ts own) (hM : xw_Mi l y wsc rm D vwCl [(cB, .int)] (.ref (q2 0) :: As) (wM q2 cB T) H.size post (wM q2 cB)) (cw : CallW R s args own RX1 index y bytes maxL ret wsc rm 0 0 n)
    (hK : va_K D vwCl (tyL cA cL cB) s) (hP : va_P D vwCl (wL q cA S a cL f q2 cB T) H) (hD : va_D (aL s) (wL q cA S a cL f q2 cB T)) (hS : va_S (aL s) s.heap H locs) {st : List Value} (hn : As.length = n) (hsize : ls.size = nL) (hst : st = As.reverse ++ .ref (q2 0) :: rest) (hW : (rest.map fun v => v.category).sum ≤ 8) (hdg : decode cc pc = .ok (.invokevirtual index, 3)) (hf : cells + 0 ≤ R.cells ∧ slots + 0 ≤ R.slots)
    (kk : ∀ (r1 : Int32) (u : MS) (H1 : Heap) (locs1 : List Loc), post r1 u → va_P D vwCl (wL q cA S a cL f q2 cB u) H1 → va_D (aL s) (wL q cA S a cL f q2 cB u) → va_S (aL s) s.heap H1 locs1 → W p l e R s m args below meth c H1 locs1 cells slots Q (F0 m (pc + 3) ls (.int r1 :: rest))) : W p l e R s m args below meth c H locs cells slots Q (F0 m pc ls st) :=
  xp_wi CF hM cw (va_recv (ci := 1) (q0 := 0) (tys := tyL cA cL cB) hK (pt_PR hP) rfl rfl) (pt_P2 hP) (hK.sub [2] rfl) (pt_D2 hD) hS (fun _ h => h) hn hsize hst hW hdg hf (fun r1 u H1 locs1 h1 h2 h3 h4 => kk r1 u H1 locs1 h1 (pt_P2 h2) (pt_D2 h3) h4)
/-- .. on the class's object, that writes -/
theorem ls_x {post : Int32 → XS → Prop} (CF : CallFix p m c cc nL s args Ts own) (hM : xw_Mi l y wsc rm D vwCl [(cA, .int)] (.ref (q 0) :: As) (wX q cA S) H.size post (wX q cA)) (cw : CallW R s args own RX0 index y bytes maxL ret wsc rm 0 0 n)
    (hK : va_K D vwCl (tyL cA cL cB) s) (hP : va_P D vwCl (wL q cA S a cL f q2 cB T) H) (hD : va_D (aL s) (wL q cA S a cL f q2 cB T)) (hS : va_S (aL s) s.heap H locs) {st : List Value} (hn : As.length = n) (hsize : ls.size = nL) (hst : st = As.reverse ++ .ref (q 0) :: rest) (hW : (rest.map fun v => v.category).sum ≤ 8) (hdg : decode cc pc = .ok (.invokevirtual index, 3)) (hf : cells + 0 ≤ R.cells ∧ slots + 0 ≤ R.slots)
    (kk : ∀ (r1 : Int32) (u : XS) (H1 : Heap) (locs1 : List Loc), post r1 u → va_P D vwCl (wL q cA u a cL f q2 cB T) H1 → va_D (aL s) (wL q cA u a cL f q2 cB T) → va_S (aL s) s.heap H1 locs1 → W p l e R s m args below meth c H1 locs1 cells slots Q (F0 m (pc + 3) ls (.int r1 :: rest))) : W p l e R s m args below meth c H locs cells slots Q (F0 m pc ls st) := by
  have hP2 : va_P D vwCl (wX q cA S ++ (xl a cL f ++ wM q2 cB T)) H := by rw [← List.append_assoc]; exact hP
  have hD2 : va_D (aL s) (wX q cA S ++ (xl a cL f ++ wM q2 cB T)) := by rw [← List.append_assoc]; exact hD
  exact xp_wi CF hM cw (va_recv (ci := 0) (q0 := 0) (tys := tyL cA cL cB) hK hP rfl rfl) hP2 (hK.sub [0] rfl) hD2 hS (fun _ h => h) hn hsize hst hW hdg hf (fun r1 u H1 locs1 h1 h2 h3 h4 => kk r1 u H1 locs1 h1 (by unfold wL; rw [List.append_assoc]; exact h2) (by unfold wL; rw [List.append_assoc]; exact h3) h4)
/-- reading the one long -/
theorem ls_ll (hexec : p.tables.exec = Jvm.exec) (hb : c.code = cc) (hK : va_K D vwCl (tyL cA cL cB) s) (hP : va_P D vwCl (wL q cA S a cL f q2 cB T) H) (hdg : decode cc pc = .ok (.laload, 1))
    (kk : W p l e R s m args below meth c H locs cells slots Q (F0 m (pc + 1) ls (.long (f 0) :: rest))) : W p l e R s m args below meth c H locs cells slots Q (F0 m pc ls (.int 0 :: .ref a :: rest)) :=
  va_lald hexec hb hK hP 7 1 rfl rfl (show ¬ ((0 : Int32) < 0 ∨ 1 ≤ (0 : Int32).toNatClampNeg) from by decide) hdg kk
end LW
