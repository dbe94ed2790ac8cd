/-! The class's state: numbers and rows as they lie in its cells, and the value read off them. -/
abbrev XS : Type := (Int32 × Int32 × Nat × Int32 × Nat × Nat) × (Nat → Int32) × (Nat → Int32) × (Nat → Int32) × (Nat → Int32) × (Nat → Int32) × (Nat → Int32)
abbrev xd (S : XS) : Int32 := S.1.1
abbrev xt (S : XS) : Int32 := S.1.2.1
abbrev xn (S : XS) : Nat := S.1.2.2.1
abbrev xm (S : XS) : Int32 := S.1.2.2.2.1
abbrev xh (S : XS) : Nat := S.1.2.2.2.2.1
abbrev xg (S : XS) : Nat := S.1.2.2.2.2.2
abbrev xse (S : XS) : Nat → Int32 := S.2.1
abbrev xnu (S : XS) : Nat → Int32 := S.2.2.1
abbrev xes (S : XS) : Nat → Int32 := S.2.2.2.1
abbrev xel (S : XS) : Nat → Int32 := S.2.2.2.2.1
abbrev xgi (S : XS) : Nat → Int32 := S.2.2.2.2.2.1
abbrev xre (S : XS) : Nat → Int32 := S.2.2.2.2.2.2
abbrev xk (d t : Int32) (n : Nat) (mm : Int32) (h g : Nat) (se nu es el gi re : Nat → Int32) : XS := ((d, t, n, mm, h, g), se, nu, es, el, gi, re)
/-- the cells of the class's object: itself and its six rows -/
abbrev wX (q : Nat → Nat) (cA : ClassId) (S : XS) : va_W := [(q 0, .inr (0, [.int (xd S), .int (xt S), .ref (q 1), .ref (q 2), .int (nI (xn S)), .int (xm S), .ref (q 3), .ref (q 4), .int (nI (xh S)), .ref (q 5), .int (nI (xg S)), .ref (q 6)])), (q 1, .inl (cA, 40, .inl (xse S))), (q 2, .inl (cA, 40, .inl (xnu S))), (q 3, .inl (cA, 200, .inl (xes S))), (q 4, .inl (cA, 200, .inl (xel S))), (q 5, .inl (cA, 100, .inl (xgi S))), (q 6, .inl (cA, 40, .inl (xre S)))]
def okX (S : XS) : Prop := xn S ≤ 40 ∧ xh S ≤ 200 ∧ xg S ≤ 100
abbrev vXL (S : XS) : List cC := cl_of (xn S) (xse S) (xnu S)
abbrev vXT (S : XS) : List cC := cl_of (xh S) (xes S) (xel S)
abbrev vXG (S : XS) : List Int32 := cl_lst (xg S) (xgi S)
/-- only the clauses have changed -/
def x_same (S u : XS) : Prop := u = xk (xd S) (xt S) (xn u) (xm S) (xh S) (xg S) (xse u) (xnu u) (xes S) (xel S) (xgi S) (xre S)
theorem x_same.rf (S : XS) : x_same S S := rfl
theorem x_same.tr {S u z : XS} (h1 : x_same S u) (h2 : x_same u z) : x_same S z := by
  unfold x_same at h1 h2 ⊢
  rw [h1] at h2
  exact h2
-- numbers that fall to minus one
def nP (n : Nat) : Int32 := nI n - 1
theorem ii_1 (k : Nat) : nI k + Int32.ofInt 1 = nI (k + 1) := nI_1 k
theorem nP_s (k : Nat) : nP (k + 1) = nI k := nI_pred k
theorem nP_0 : nP 0 = -1 := by decide
theorem nP_sub {n : Nat} (h : 0 < n) : nP n = nI (n - 1) := by
  obtain ⟨k, rfl⟩ : ∃ k, n = k + 1 := ⟨n - 1, by omega⟩
  exact nP_s k
theorem ii_m1 (k : Nat) : nP (k + 1) + Int32.ofInt (-1) = nP k := by
  rw [nP_s]
  unfold nP
  rw [show Int32.ofInt (-1) = -1 by decide]
  exact (Int32.sub_eq_add_neg ..).symm
theorem ii_p (k : Nat) : nI k + Int32.ofInt (-1) = nP k := by
  unfold nP
  rw [show Int32.ofInt (-1) = -1 by decide]
  exact (Int32.sub_eq_add_neg ..).symm
section XI
variable {p : Program} {l : Launch} {e : Env} {R : Room} {s : State} {m : MethodId} {args : Array Value} {below : List Frame} {meth : Method} {c : Code} {H : Heap} {locs : List Loc} {cells slots : Nat} {Q : State → Prop}
variable {cc : ByteArray} {pc : Nat} {ls : Array Slot} {rest : List Value}
theorem xi_inc (hexec : p.tables.exec = Jvm.exec) (hb : c.code = cc) {k : Nat} (hdg : decode cc pc = .ok (.iadd, 1)) (kk : W p l e R s m args below meth c H locs cells slots Q (F0 m (pc + 1) ls (.int (nI (k + 1)) :: rest))) : W p l e R s m args below meth c H locs cells slots Q (F0 m pc ls (.int 1 :: .int (nI k) :: rest)) := by
  refine lv_iadd hexec hb hdg ?_
  rw [nI_1]
  exact kk
theorem xi_dec (hexec : p.tables.exec = Jvm.exec) (hb : c.code = cc) {k : Nat} (hdg : decode cc pc = .ok (.isub, 1)) (kk : W p l e R s m args below meth c H locs cells slots Q (F0 m (pc + 1) ls (.int (nP k) :: rest))) : W p l e R s m args below meth c H locs cells slots Q (F0 m pc ls (.int 1 :: .int (nI k) :: rest)) :=
  lv_isub hexec hb hdg kk
theorem xi_not (hexec : p.tables.exec = Jvm.exec) (hb : c.code = cc) {x : Int32} (hdg : decode cc pc = .ok (.ixor, 1)) (kk : W p l e R s m args below meth c H locs cells slots Q (F0 m (pc + 1) ls (.int (k_not x) :: rest))) : W p l e R s m args below meth c H locs cells slots Q (F0 m pc ls (.int (-1) :: .int x :: rest)) :=
  lv_ixor hexec hb hdg kk
end XI
-- rows moved up by one from k on
def rmv (k i : Nat) (f : Nat → Int32) : Nat → Int32 := fun j => if k ≤ j ∧ j < i then f (j + 1) else f j
theorem rmv_0 (k : Nat) (f : Nat → Int32) : rmv k k f = f := by
  funext j
  unfold rmv
  rw [if_neg (by omega)]
theorem rmv_s {k i : Nat} (h : k ≤ i) (f : Nat → Int32) : upd (rmv k i f) i (rmv k i f (i + 1)) = rmv k (i + 1) f := by
  have e : rmv k i f (i + 1) = f (i + 1) := by
    unfold rmv
    rw [if_neg (by omega)]
  rw [e]
  funext j
  by_cases hj : j = i
  · subst hj
    rw [pk_us]
    unfold rmv
    rw [if_pos (by omega)]
  · rw [pk_un hj]
    unfold rmv
    by_cases hc : k ≤ j ∧ j < i
    · rw [if_pos hc, if_pos (by omega)]
    · rw [if_neg hc, if_neg (by omega)]
theorem rmv_cl {n k : Nat} (h : k < n) (se nu : Nat → Int32) : cl_of (n - 1) (rmv k (n - 1) se) (rmv k (n - 1) nu) = (cl_of n se nu).eraseIdx k := by
  obtain ⟨m, rfl⟩ : ∃ m, n = m + 1 := ⟨n - 1, by omega⟩
  rw [Nat.add_sub_cancel]
  unfold cl_of
  refine cl_erase (by omega) (fun j hj => ?_) (fun j h1 h2 => ?_)
  · unfold rmv
    rw [if_neg (by omega), if_neg (by omega)]
  · unfold rmv
    rw [if_pos (by omega), if_pos (by omega)]
theorem mk_cl (n : Nat) (se nu : Nat → Int32) (x y : Int32) : cl_of (n + 1) (upd se n x) (upd nu n y) = cl_of n se nu ++ [(x, y)] := by
  unfold cl_of
  rw [cl_succ]
  congr 1
  · refine cl_congr (fun k hk => ?_)
    rw [pk_un (by omega), pk_un (by omega)]
  · rw [pk_us, pk_us]
theorem mk_g (n : Nat) (f : Nat → Int32) (x : Int32) : cl_lst (n + 1) (upd f n x) = cl_lst n f ++ [x] := by
  rw [cl_succ]
  congr 1
  · refine cl_congr (fun k hk => ?_)
    rw [pk_un (by omega)]
  · rw [pk_us]
theorem st_cl {n k : Nat} (se nu : Nat → Int32) (x : Int32) (h : k < n) : cl_of n (upd se k x) nu = (cl_of n se nu).set k (x, nu k) := by
  unfold cl_of
  refine cl_set (by rw [pk_us]) (fun j _ hj => ?_)
  rw [pk_un hj]
theorem kb_0 {b : Bool} : k_b b = 0 ↔ b = false := by cases b <;> decide
theorem kb_n0 {b : Bool} : ¬ k_b b = 0 ↔ b = true := by cases b <;> decide
theorem kb_t {b : Bool} (h : b = true) : k_b b = 1 := by rw [h]; rfl
theorem kb_f {b : Bool} (h : b = false) : k_b b = 0 := by rw [h]; rfl
theorem nI_m1 {k : Nat} (h : k < 2 ^ 31) : ¬ nI k = -1 := fun q => by
  have h1 := nI_toInt h
  rw [q] at h1
  have h2 : (-1 : Int32).toInt = -1 := by decide
  omega
theorem q_idx_m1 {o : Option Nat} (h : ∀ k, o = some k → k < 2 ^ 31) : q_idx o = -1 ↔ o = none := by
  cases o with
  | none => exact ⟨fun _ => rfl, fun _ => rfl⟩
  | some k => exact ⟨fun q => absurd q (nI_m1 (h k rfl)), fun q => nomatch q⟩
theorem q_up_small {p : Nat → Bool} {f k n : Nat} (h : f + k ≤ n) (hn : n < 2 ^ 31) : ∀ i, q_up p f k = some i → i < 2 ^ 31 := fun i q => by
  have := q_up_some q
  omega
theorem q_find_of (n : Nat) (se nu : Nat → Int32) (x : Int32) : q_up (fun k => se k == x) n 0 = q_find (cl_of n se nu) x := by
  unfold q_find
  rw [cl_of_len]
  refine q_up_congr n 0 (fun i _ h => ?_)
  rw [q_set_of (by omega)]
