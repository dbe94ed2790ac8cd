/-! Eliminating: the resolvents gathered, the entries pushed. -/
section XI2
variable {p : Program} {l : Launch} {e : Env} {R : Room} {s : State} {m : MethodId} {args : Array Value} {below : List Frame} {meth : Method} {c : Code} {H : Heap} {locs : List Loc} {cells slots : Nat} {Q : State → Prop}
variable {cc : ByteArray} {pc : Nat} {ls : Array Slot} {rest : List Value}
theorem xi_add (hexec : p.tables.exec = Jvm.exec) (hb : c.code = cc) {a b : Nat} (hdg : decode cc pc = .ok (.iadd, 1)) (kk : W p l e R s m args below meth c H locs cells slots Q (F0 m (pc + 1) ls (.int (nI (a + b)) :: rest))) : W p l e R s m args below meth c H locs cells slots Q (F0 m pc ls (.int (nI b) :: .int (nI a) :: rest)) := by
  refine lv_iadd hexec hb hdg ?_
  rw [nI_add]
  exact kk
end XI2
def q_g1 (L : List cC) (x v : Int32) (most : Nat) : Nat → Nat → List Int32 → Option (List Int32)
  | 0, _, R => some R
  | f + 1, d, R =>
    if q_set L d &&& k_neg v = 0 then q_g1 L x v most f (d + 1) R
    else if q_can L (k_res x (q_set L d) (k_both v)) = true ∧ k_res x (q_set L d) (k_both v) ∉ R then
      (if R.length < most then q_g1 L x v most f (d + 1) (R ++ [k_res x (q_set L d) (k_both v)]) else none)
    else q_g1 L x v most f (d + 1) R
def q_g2 (L : List cC) (v : Int32) (most : Nat) : Nat → Nat → List Int32 → Option (List Int32)
  | 0, _, R => some R
  | f + 1, c, R =>
    if q_set L c &&& k_pos v = 0 then q_g2 L v most f (c + 1) R
    else match q_g1 L (q_set L c) v most L.length 0 R with
      | none => none
      | some R1 => q_g2 L v most f (c + 1) R1
def q_post (o : Option (List Int32)) (most : Nat) (r : Int32) (f : Nat → Int32) : Prop := match o with
  | none => r = -1
  | some R1 => r = nI R1.length ∧ cl_lst R1.length f = R1 ∧ R1.length ≤ most
section G1
variable {L : List cC} {x v : Int32} {most n k : Nat} {R : List Int32}
theorem g1_un (h : k < n) : q_g1 L x v most (n - k) k R = (if q_set L k &&& k_neg v = 0 then q_g1 L x v most (n - (k + 1)) (k + 1) R
    else if q_can L (k_res x (q_set L k) (k_both v)) = true ∧ k_res x (q_set L k) (k_both v) ∉ R then
      (if R.length < most then q_g1 L x v most (n - (k + 1)) (k + 1) (R ++ [k_res x (q_set L k) (k_both v)]) else none)
    else q_g1 L x v most (n - (k + 1)) (k + 1) R) := by
  obtain ⟨f, hf⟩ : ∃ f, n - k = f + 1 := ⟨n - k - 1, by omega⟩
  rw [hf, show n - (k + 1) = f by omega]
  rfl
theorem g1_skip (h : k < n) (h1 : q_set L k &&& k_neg v = 0) : q_g1 L x v most (n - k) k R = q_g1 L x v most (n - (k + 1)) (k + 1) R := by rw [g1_un h, if_pos h1]
theorem g1_not (h : k < n) (h1 : ¬ q_set L k &&& k_neg v = 0) (h2 : ¬ (q_can L (k_res x (q_set L k) (k_both v)) = true ∧ k_res x (q_set L k) (k_both v) ∉ R)) : q_g1 L x v most (n - k) k R = q_g1 L x v most (n - (k + 1)) (k + 1) R := by rw [g1_un h, if_neg h1, if_neg h2]
theorem g1_add (h : k < n) (h1 : ¬ q_set L k &&& k_neg v = 0) (h2 : q_can L (k_res x (q_set L k) (k_both v)) = true ∧ k_res x (q_set L k) (k_both v) ∉ R) (h3 : R.length < most) : q_g1 L x v most (n - k) k R = q_g1 L x v most (n - (k + 1)) (k + 1) (R ++ [k_res x (q_set L k) (k_both v)]) := by rw [g1_un h, if_neg h1, if_pos h2, if_pos h3]
theorem g1_full (h : k < n) (h1 : ¬ q_set L k &&& k_neg v = 0) (h2 : q_can L (k_res x (q_set L k) (k_both v)) = true ∧ k_res x (q_set L k) (k_both v) ∉ R) (h3 : ¬ R.length < most) : q_g1 L x v most (n - k) k R = none := by rw [g1_un h, if_neg h1, if_pos h2, if_neg h3]
theorem g1_end (h : n ≤ k) : q_g1 L x v most (n - k) k R = some R := by
  rw [show n - k = 0 by omega]
  rfl
theorem g2_un (h : k < n) : q_g2 L v most (n - k) k R = (if q_set L k &&& k_pos v = 0 then q_g2 L v most (n - (k + 1)) (k + 1) R
    else match q_g1 L (q_set L k) v most L.length 0 R with
      | none => none
      | some R1 => q_g2 L v most (n - (k + 1)) (k + 1) R1) := by
  obtain ⟨f, hf⟩ : ∃ f, n - k = f + 1 := ⟨n - k - 1, by omega⟩
  rw [hf, show n - (k + 1) = f by omega]
  rfl
theorem g2_skip (h : k < n) (h1 : q_set L k &&& k_pos v = 0) : q_g2 L v most (n - k) k R = q_g2 L v most (n - (k + 1)) (k + 1) R := by rw [g2_un h, if_pos h1]
theorem g2_none (h : k < n) (h1 : ¬ q_set L k &&& k_pos v = 0) (h2 : q_g1 L (q_set L k) v most L.length 0 R = none) : q_g2 L v most (n - k) k R = none := by rw [g2_un h, if_neg h1, h2]
theorem g2_some {R1 : List Int32} (h : k < n) (h1 : ¬ q_set L k &&& k_pos v = 0) (h2 : q_g1 L (q_set L k) v most L.length 0 R = some R1) : q_g2 L v most (n - k) k R = q_g2 L v most (n - (k + 1)) (k + 1) R1 := by rw [g2_un h, if_neg h1, h2]
theorem g2_end (h : n ≤ k) : q_g2 L v most (n - k) k R = some R := by
  rw [show n - k = 0 by omega]
  rfl
end G1
theorem fd_in {R : List Int32} {f : Nat → Int32} (h : cl_lst R.length f = R) (x : Int32) : q_up (fun i => f i == x) R.length 0 = none ↔ x ∉ R := by
  constructor
  · intro hn hx
    obtain ⟨i, hi⟩ := List.getElem?_of_mem hx
    have hl := (List.getElem?_eq_some_iff.mp hi).1
    have h1 := q_up_none hn i (Nat.zero_le _) (by omega)
    rw [← h, cl_get hl] at hi
    have h2 : f i = x := Option.some.inj hi
    rw [h2] at h1
    simp at h1
  · intro hx
    cases hq : q_up (fun i => f i == x) R.length 0 with
    | none => rfl
    | some i =>
      obtain ⟨h1, h2, h3⟩ := q_up_some hq
      have h4 : f i = x := by simpa using h3
      refine absurd ?_ hx
      rw [← h4]
      refine List.mem_of_getElem? (i := i) ?_
      have h5 := cl_get (f := f) (show i < R.length by omega)
      rw [h] at h5
      exact h5
theorem fd_m1 {R : List Int32} {f : Nat → Int32} {x : Int32} (h : cl_lst R.length f = R) (hl : R.length < 2 ^ 31) : q_idx (q_up (fun i => f i == x) R.length 0) = -1 ↔ x ∉ R := by
  rw [q_idx_m1 (fun k hk => by have := q_up_some hk; omega), fd_in h x]
theorem g_app {R : List Int32} {f : Nat → Int32} {x : Int32} (h : cl_lst R.length f = R) : cl_lst (R ++ [x]).length (upd f R.length x) = R ++ [x] := by
  rw [List.length_append]
  exact (mk_g R.length f x).trans (by rw [h])
theorem q_cw_le (L : List cC) (b : Int32) : q_cw L b ≤ L.length := by
  have := q_ct_le (p := fun k => (q_set L k &&& b) != 0) L.length 0 0
  unfold q_cw
  omega
/-- what is pushed of the clauses that have b -/
def q_pal (b : Int32) (M : List cC) : List cC := (M.filter (fun c => (c.1 &&& b) != 0)).map (fun c => (c.1, b))
theorem pal_t {b : Int32} {n : Nat} {se nu : Nat → Int32} (h : ¬ se n &&& b = 0) : q_pal b (cl_of (n + 1) se nu) = q_pal b (cl_of n se nu) ++ [(se n, b)] := by
  unfold q_pal
  rw [fl_t (by simp [h]), List.map_append]
  rfl
theorem pal_f {b : Int32} {n : Nat} {se nu : Nat → Int32} (h : se n &&& b = 0) : q_pal b (cl_of (n + 1) se nu) = q_pal b (cl_of n se nu) := by
  unfold q_pal
  rw [fl_f (by simp [h])]
/-- clauses made one behind another -/
def q_app : List cC → Int32 → List Int32 → List cC
  | L, _, [] => L
  | L, mm, x :: R => q_app (L ++ [(x, mm)]) (mm + 1) R
def q_mm : Int32 → List Int32 → Int32
  | mm, [] => mm
  | mm, _ :: R => q_mm (mm + 1) R
theorem cw_split : ∀ (L : List cC) (b : Int32), (L.filter (fun c => (c.1 &&& b) == 0)).length + (L.filter (fun c => (c.1 &&& b) != 0)).length = L.length
  | [], _ => rfl
  | a :: L, b => by
    have := cw_split L b
    rw [List.filter_cons, List.filter_cons]
    by_cases h : a.1 &&& b = 0
    · rw [if_pos (by simp [h]), if_neg (by simp [h]), List.length_cons, List.length_cons]
      omega
    · rw [if_neg (by simp [h]), if_pos (by simp [h]), List.length_cons, List.length_cons]
      omega
theorem cw_len (n : Nat) (se nu : Nat → Int32) (b : Int32) : q_cw (cl_of n se nu) b = ((cl_of n se nu).filter (fun c => (c.1 &&& b) != 0)).length := by
  unfold q_cw
  rw [cl_of_len]
  have key : ∀ k, k ≤ n → q_ct (fun i => (q_set (cl_of n se nu) i &&& b) != 0) k 0 0 = ((cl_of k se nu).filter (fun c => (c.1 &&& b) != 0)).length := by
    intro k
    induction k with
    | zero => intro _; rfl
    | succ k ih =>
      intro hk
      have e := q_ct_app (fun i => (q_set (cl_of n se nu) i &&& b) != 0) k 1 0 0
      rw [e, ih (by omega), Nat.zero_add]
      show (if (q_set (cl_of n se nu) k &&& b) != 0 then _ + 1 else _) = _
      rw [q_set_of (by omega)]
      by_cases h : se k &&& b = 0
      · rw [if_neg (by simp [h]), fl_f (by simp [h])]
      · rw [if_pos (by simp [h]), fl_t (by simp [h]), List.length_append]
        rfl
  exact key n (Nat.le_refl _)
