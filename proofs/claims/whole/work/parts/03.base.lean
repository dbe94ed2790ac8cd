/-! Rows of my own over the kit: contracts of three kinds (reading: xr_M; writing, with an int or without: xw_Mi, xw_Mv), calls of these, loops, joins, array rows at small indices. -/
abbrev xr_P (D : va_G) (cl : List vw_C) (tys : List (ClassId × FieldType)) (av : List Value) (w : va_W) : Array Value → State → Prop := va_Pc av (fun U => va_P D cl w U.heap ∧ va_K D cl tys U)
abbrev xr_M (l : Launch) (y : MethodName) (ws : List Cond) (rm : Room) (D : va_G) (cl : List vw_C) (tys : List (ClassId × FieldType)) (av : List Value) (w : va_W) (r : Int32) : Prop := Met l y ws rm (xr_P D cl tys av w) (QcRead r) 0 0 (fun _ => False)
abbrev xs_M (l : Launch) (y : MethodName) (ws : List Cond) (rm : Room) (av : List Value) (r : Int32) : Prop := Met l y ws rm (fun v _ => v = av.toArray) (QcRead r) 0 0 (fun _ => False)
abbrev xw_P (D : va_G) (cl : List vw_C) (tys : List (ClassId × FieldType)) (w : va_W) (sz : Nat) : State → Prop := fun U => U.heap.size = sz ∧ va_P D cl w U.heap ∧ va_K D cl tys U ∧ va_D (fun _ => True) w
abbrev xw_B {Sx : Type} (D : va_G) (cl : List vw_C) (tys : List (ClassId × FieldType)) (w : va_W) (sz : Nat) (w1 : Sx → va_W) : Sx → State → Prop := fun u t => va_P D cl (w1 u) t.heap ∧ va_K D cl tys t ∧ va_D (va_A w sz) (w1 u)
abbrev xw_Mi {Sx : Type} (l : Launch) (y : MethodName) (ws : List Cond) (rm : Room) (D : va_G) (cl : List vw_C) (tys : List (ClassId × FieldType)) (av : List Value) (w : va_W) (sz : Nat) (post : Int32 → Sx → Prop) (w1 : Sx → va_W) : Prop := Met l y ws rm (va_Pc av (xw_P D cl tys w sz)) (va_Qi post (xw_B D cl tys w sz w1) (va_A w sz)) 0 0 (va_A w sz)
abbrev xw_Mv {Sx : Type} (l : Launch) (y : MethodName) (ws : List Cond) (rm : Room) (D : va_G) (cl : List vw_C) (tys : List (ClassId × FieldType)) (av : List Value) (w : va_W) (sz : Nat) (post : Sx → Prop) (w1 : Sx → va_W) : Prop := Met l y ws rm (va_Pc av (xw_P D cl tys w sz)) (va_Qv post (xw_B D cl tys w sz w1) (va_A w sz)) 0 0 (va_A w sz)
theorem xr_blind (D : va_G) (cl : List vw_C) (tys : List (ClassId × FieldType)) (av : List Value) (w : va_W) : FrameBlind (xr_P D cl tys av w) := fun a U g mk q => ⟨q.1, q.2.1, va_K.moved (u := U) (U := U.calling g mk a) (Vm.Alike.refl U.vm) q.2.2⟩
theorem xw_blind (D : va_G) (cl : List vw_C) (tys : List (ClassId × FieldType)) (av : List Value) (w : va_W) (sz : Nat) : FrameBlind (va_Pc av (xw_P D cl tys w sz)) := fun a U g mk q => ⟨q.1, q.2.1, q.2.2.1, va_K.moved (u := U) (U := U.calling g mk a) (Vm.Alike.refl U.vm) q.2.2.2.1, q.2.2.2.2⟩
section XB
variable {p : Program} {l : Launch} {e : Env} {R : Room} {s : State} {m : MethodId} {args : Array Value} {below : List Frame} {meth : Method} {c : Code} {H : Heap} {locs : List Loc} {cells slots : Nat} {Q : State → Prop}
variable {cc bytes : ByteArray} {pc : Nat} {ls : Array Slot} {rest As : List Value} {D : va_G} {cl : List vw_C} {A : Nat → Prop} {a b : Nat} {tys tys1 : List (ClassId × FieldType)} {ws w0 : va_W} {H0 : Heap}
variable {y : MethodName} {maxL nL n index : Nat} {ret : Option FieldType} {wsc Ts : List Cond} {rm : Room} {own C : String} {r : Int32}
theorem xa_ld (hexec : p.tables.exec = Jvm.exec) (hb : c.code = cc) (hK : va_K D cl tys s) (hP : va_P D cl ws H) (q0 t0 : Nat) {cA : ClassId} {N : Nat} {f : Nat → Int32} (ha : ws[q0]? = some (a, .inl (cA, N, .inl f))) (ht : tys[t0]? = some (cA, .int)) (k : Nat) (hk : k < N) (hn : N < 2 ^ 31) (hdg : decode cc pc = .ok (.iaload, 1)) (kk : W p l e R s m args below meth c H locs cells slots Q (F0 m (pc + 1) ls (.int (f k) :: rest))) : W p l e R s m args below meth c H locs cells slots Q (F0 m pc ls (.int (nI k) :: .ref a :: rest)) := by
  refine va_iald hexec hb hK hP q0 t0 ha ht (vp_in_nI hk hn) hdg ?_
  rw [nI_clamp (Nat.lt_trans hk hn)]
  exact kk
theorem xa_st (hexec : p.tables.exec = Jvm.exec) (hb : c.code = cc) (hK : va_K D cl tys s) (hP : va_P D cl ws H) (hD : va_D A ws) (hS : va_S A H0 H locs) (q0 t0 : Nat) {cA : ClassId} {N : Nat} {f : Nat → Int32} (ha : ws[q0]? = some (a, .inl (cA, N, .inl f))) (ht : tys[t0]? = some (cA, .int)) (k : Nat) {x : Int32} (hk : k < N) (hn : N < 2 ^ 31) (hdg : decode cc pc = .ok (.iastore, 1))
    (kk : ∀ (H1 : Heap) (locs1 : List Loc), va_P D cl (ws.set q0 (a, .inl (cA, N, .inl (upd f k x)))) H1 → va_D A (ws.set q0 (a, .inl (cA, N, .inl (upd f k x)))) → va_S A H0 H1 locs1 → W p l e R s m args below meth c H1 locs1 cells slots Q (F0 m (pc + 1) ls rest)) : W p l e R s m args below meth c H locs cells slots Q (F0 m pc ls (.int x :: .int (nI k) :: .ref a :: rest)) := by
  refine va_iast hexec hb hK hP hD hS q0 t0 ha ht (vp_in_nI hk hn) hdg ?_
  rw [nI_clamp (Nat.lt_trans hk hn)]
  exact kk
/-- a loop that writes nothing: by a measure that falls -/
theorem wlr {σ : Type} {st : List Value} (I : σ → Array Slot → Prop) (mu : σ → Nat) (x0 : σ) {ls0 : Array Slot} (h0 : I x0 ls0)
    (step : ∀ (x : σ) (ls1 : Array Slot), I x ls1 → (∀ (z : σ) (ls2 : Array Slot), I z ls2 → mu z < mu x → W p l e R s m args below meth c H locs cells slots Q (F0 m pc ls2 st)) → W p l e R s m args below meth c H locs cells slots Q (F0 m pc ls1 st)) :
    W p l e R s m args below meth c H locs cells slots Q (F0 m pc ls0 st) := by
  have key : ∀ (k : Nat) (x : σ) (ls1 : Array Slot), mu x < k → I x ls1 → W p l e R s m args below meth c H locs cells slots Q (F0 m pc ls1 st) := by
    intro k
    induction k with
    | zero => intro x ls1 h; exact absurd h (Nat.not_lt_zero _)
    | succ k ih => intro x ls1 h hI; exact step x ls1 hI (fun z ls2 hz hm => ih z ls2 (by omega) hz)
  exact key (mu x0 + 1) x0 ls0 (Nat.lt_succ_self _) h0
/-- a loop that writes -/
theorem wlw {σ : Type} {st : List Value} (I : σ → Heap → List Loc → Array Slot → Prop) (mu : σ → Nat) (x0 : σ) {ls0 : Array Slot} (h0 : I x0 H locs ls0)
    (step : ∀ (x : σ) (H1 : Heap) (locs1 : List Loc) (ls1 : Array Slot), I x H1 locs1 ls1 → (∀ (z : σ) (H2 : Heap) (locs2 : List Loc) (ls2 : Array Slot), I z H2 locs2 ls2 → mu z < mu x → W p l e R s m args below meth c H2 locs2 cells slots Q (F0 m pc ls2 st)) → W p l e R s m args below meth c H1 locs1 cells slots Q (F0 m pc ls1 st)) :
    W p l e R s m args below meth c H locs cells slots Q (F0 m pc ls0 st) := by
  have key : ∀ (k : Nat) (x : σ) (H1 : Heap) (locs1 : List Loc) (ls1 : Array Slot), mu x < k → I x H1 locs1 ls1 → W p l e R s m args below meth c H1 locs1 cells slots Q (F0 m pc ls1 st) := by
    intro k
    induction k with
    | zero => intro x H1 locs1 ls1 h; exact absurd h (Nat.not_lt_zero _)
    | succ k ih => intro x H1 locs1 ls1 h hI; exact step x H1 locs1 ls1 hI (fun z H2 locs2 ls2 hz hm => ih z H2 locs2 ls2 (by omega) hz)
  exact key (mu x0 + 1) x0 H locs ls0 (Nat.lt_succ_self _) h0
/-- several ways meet at pc2 -/
theorem wj {σ : Type} {g : JFrame} (pc2 : Nat) (I : σ → Heap → List Loc → Array Slot → Prop) (stk : σ → List Value)
    (body : (∀ (x : σ) (H1 : Heap) (locs1 : List Loc) (ls1 : Array Slot), I x H1 locs1 ls1 → W p l e R s m args below meth c H1 locs1 cells slots Q (F0 m pc2 ls1 (stk x))) → W p l e R s m args below meth c H locs cells slots Q g)
    (k : ∀ (x : σ) (H1 : Heap) (locs1 : List Loc) (ls1 : Array Slot), I x H1 locs1 ls1 → W p l e R s m args below meth c H1 locs1 cells slots Q (F0 m pc2 ls1 (stk x))) :
    W p l e R s m args below meth c H locs cells slots Q g := body k
/-- several ways meet, nothing written -/
theorem wjr {σ : Type} {g : JFrame} (pc2 : Nat) (I : σ → Array Slot → Prop) (stk : σ → List Value)
    (body : (∀ (x : σ) (ls1 : Array Slot), I x ls1 → W p l e R s m args below meth c H locs cells slots Q (F0 m pc2 ls1 (stk x))) → W p l e R s m args below meth c H locs cells slots Q g)
    (k : ∀ (x : σ) (ls1 : Array Slot), I x ls1 → W p l e R s m args below meth c H locs cells slots Q (F0 m pc2 ls1 (stk x))) :
    W p l e R s m args below meth c H locs cells slots Q g := body k
/-- a static call that reads no cell -/
theorem xc_s (S : CallFix p m c cc nL s args Ts own) (hM : xs_M l y wsc rm As r) (cw : CallB R s args own index y bytes maxL ret wsc rm 0 0 n ∧ (Cond.static y).before args s = true) {st : List Value} (hn : As.length = n) (hsize : ls.size = nL) (hst : st = As.reverse ++ rest) (hW : (rest.map fun v => v.category).sum ≤ 8) (hdg : decode cc pc = .ok (.invokestatic index, 3)) (hf : cells + 0 ≤ R.cells ∧ slots + 0 ≤ R.slots)
    (kk : W p l e R s m args below meth c H locs cells slots Q (F0 m (pc + 3) ls (.int r :: rest))) : W p l e R s m args below meth c H locs cells slots Q (F0 m pc ls st) :=
  W.callR (W.runS (g := F0 m pc ls st) S hM cw preEq rfl hn hsize hst (lv_room hW) hdg hf) kk
/-- a static call that reads cells -/
theorem xc_rs (S : CallFix p m c cc nL s args Ts own) (hM : xr_M l y wsc rm D cl tys1 As w0 r) (cw : CallB R s args own index y bytes maxL ret wsc rm 0 0 n ∧ (Cond.static y).before args s = true) (hPc : va_P D cl w0 H) (hKc : va_K D cl tys1 s) {st : List Value} (hn : As.length = n) (hsize : ls.size = nL) (hst : st = As.reverse ++ rest) (hW : (rest.map fun v => v.category).sum ≤ 8) (hdg : decode cc pc = .ok (.invokestatic index, 3)) (hf : cells + 0 ≤ R.cells ∧ slots + 0 ≤ R.slots)
    (kk : W p l e R s m args below meth c H locs cells slots Q (F0 m (pc + 3) ls (.int r :: rest))) : W p l e R s m args below meth c H locs cells slots Q (F0 m pc ls st) :=
  W.callR (W.runS (g := F0 m pc ls st) S hM cw ⟨xr_blind _ _ _ _ _, fun U hU hW => ⟨rfl, by rw [hU]; exact hPc, va_K.moved hW.alike hKc⟩⟩ rfl hn hsize hst (lv_room hW) hdg hf) kk
/-- a call on an object that reads cells -/
theorem xc_rv (S : CallFix p m c cc nL s args Ts own) (hM : xr_M l y wsc rm D cl tys1 (.ref b :: As) w0 r) (cw : CallW R s args own C index y bytes maxL ret wsc rm 0 0 n) (hrv : ∃ cellB : Cell, H[b]? = some cellB ∧ cellB.vm.isStatics = false ∧ s.vm.findClass C = some cellB.cls) (hPc : va_P D cl w0 H) (hKc : va_K D cl tys1 s) {st : List Value} (hn : As.length = n) (hsize : ls.size = nL) (hst : st = As.reverse ++ .ref b :: rest) (hW : (rest.map fun v => v.category).sum ≤ 8) (hdg : decode cc pc = .ok (.invokevirtual index, 3)) (hf : cells + 0 ≤ R.cells ∧ slots + 0 ≤ R.slots)
    (kk : W p l e R s m args below meth c H locs cells slots Q (F0 m (pc + 3) ls (.int r :: rest))) : W p l e R s m args below meth c H locs cells slots Q (F0 m pc ls st) :=
  W.callR (W.runV (g := F0 m pc ls st) S hM cw ⟨xr_blind _ _ _ _ _, hrv, fun U hU hW => ⟨rfl, by rw [hU]; exact hPc, va_K.moved hW.alike hKc⟩⟩ rfl hn hsize hst (lv_room hW) hdg hf) kk
/-- a call on an object that writes in the caller's own world and answers an int -/
theorem xc_wi {Sx : Type} {post : Int32 → Sx → Prop} {w1 : Sx → va_W} (S : CallFix p m c cc nL s args Ts own) (hM : xw_Mi l y wsc rm D cl tys (.ref b :: As) ws H.size post w1) (cw : CallW R s args own C index y bytes maxL ret wsc rm 0 0 n) (hrv : ∃ cellB : Cell, H[b]? = some cellB ∧ cellB.vm.isStatics = false ∧ s.vm.findClass C = some cellB.cls) (hP : va_P D cl ws H) (hK : va_K D cl tys s) (hD : va_D A ws) (hS : va_S A H0 H locs) (hA : ∀ q, H0.size ≤ q → A q) {st : List Value} (hn : As.length = n) (hsize : ls.size = nL) (hst : st = As.reverse ++ .ref b :: rest) (hW : (rest.map fun v => v.category).sum ≤ 8) (hdg : decode cc pc = .ok (.invokevirtual index, 3)) (hf : cells + 0 ≤ R.cells ∧ slots + 0 ≤ R.slots)
    (kk : ∀ (r1 : Int32) (u : Sx) (H1 : Heap) (locs1 : List Loc), post r1 u → va_P D cl (w1 u) H1 → va_D A (w1 u) → va_S A H0 H1 locs1 → W p l e R s m args below meth c H1 locs1 cells slots Q (F0 m (pc + 3) ls (.int r1 :: rest))) : W p l e R s m args below meth c H locs cells slots Q (F0 m pc ls st) := by
  have hFc : ∀ q, va_A ws H.size q → A q := fun q h => by
    rcases h with ⟨k, e1, h⟩ | h
    · exact hD.2 k (q, e1) h
    · exact hA q (Nat.le_trans hS.1 h)
  refine va_calli (va_runV (g := F0 m pc ls st) S hM cw ⟨xw_blind _ _ _ _ _ _, hrv, fun U hU hW => ⟨rfl, by rw [hU], by rw [hU]; exact hP, va_K.moved hW.alike hK, hD.weaken (fun _ _ _ _ => trivial)⟩⟩ rfl hn hsize hst (lv_room hW) hdg hf) hS (fun q _ h => hFc q h) hFc (fun r1 u t H1 locs1 ht hvm hpo hB hz1 hk1 hS1 => ?_)
  obtain ⟨hP1, -, hD1⟩ := hB
  rw [ht] at hP1
  exact kk r1 u H1 locs1 hpo hP1 (hD1.weaken (fun k q _ h => hFc q.1 h)) hS1
/-- .. that answers nothing -/
theorem xc_wv {Sx : Type} {post : Sx → Prop} {w1 : Sx → va_W} (S : CallFix p m c cc nL s args Ts own) (hM : xw_Mv l y wsc rm D cl tys (.ref b :: As) ws H.size post w1) (cw : CallW R s args own C index y bytes maxL ret wsc rm 0 0 n) (hrv : ∃ cellB : Cell, H[b]? = some cellB ∧ cellB.vm.isStatics = false ∧ s.vm.findClass C = some cellB.cls) (hP : va_P D cl ws H) (hK : va_K D cl tys s) (hD : va_D A ws) (hS : va_S A H0 H locs) (hA : ∀ q, H0.size ≤ q → A q) {st : List Value} (hn : As.length = n) (hsize : ls.size = nL) (hst : st = As.reverse ++ .ref b :: rest) (hW : (rest.map fun v => v.category).sum ≤ 8) (hdg : decode cc pc = .ok (.invokevirtual index, 3)) (hf : cells + 0 ≤ R.cells ∧ slots + 0 ≤ R.slots)
    (kk : ∀ (u : Sx) (H1 : Heap) (locs1 : List Loc), post u → va_P D cl (w1 u) H1 → va_D A (w1 u) → va_S A H0 H1 locs1 → W p l e R s m args below meth c H1 locs1 cells slots Q (F0 m (pc + 3) ls rest)) : W p l e R s m args below meth c H locs cells slots Q (F0 m pc ls st) := by
  have hFc : ∀ q, va_A ws H.size q → A q := fun q h => by
    rcases h with ⟨k, e1, h⟩ | h
    · exact hD.2 k (q, e1) h
    · exact hA q (Nat.le_trans hS.1 h)
  refine va_callv (va_runV (g := F0 m pc ls st) S hM cw ⟨xw_blind _ _ _ _ _ _, hrv, fun U hU hW => ⟨rfl, by rw [hU], by rw [hU]; exact hP, va_K.moved hW.alike hK, hD.weaken (fun _ _ _ _ => trivial)⟩⟩ rfl hn hsize hst (lv_room hW) hdg hf) hS (fun q _ h => hFc q h) hFc (fun u t H1 locs1 ht hvm hpo hB hz1 hk1 hS1 => ?_)
  obtain ⟨hP1, -, hD1⟩ := hB
  rw [ht] at hP1
  exact kk u H1 locs1 hpo hP1 (hD1.weaken (fun k q _ h => hFc q.1 h)) hS1
end XB
