/-! The value that both sides hold: clauses as a list of (set, number), and what the searches say of it. -/
abbrev cC : Type := Int32 × Int32
def q_set (L : List cC) (k : Nat) : Int32 := (L.getD k (0, 0)).1
def q_num (L : List cC) (k : Nat) : Int32 := (L.getD k (0, 0)).2
def cl_of (n : Nat) (se nu : Nat → Int32) : List cC := cl_lst n (fun i => (se i, nu i))
theorem cl_of_len (n : Nat) (se nu : Nat → Int32) : (cl_of n se nu).length = n := cl_len _ _
theorem q_set_of {n : Nat} {se nu : Nat → Int32} {k : Nat} (h : k < n) : q_set (cl_of n se nu) k = se k := by
  unfold q_set cl_of
  rw [cl_getD h]
theorem q_num_of {n : Nat} {se nu : Nat → Int32} {k : Nat} (h : k < n) : q_num (cl_of n se nu) k = nu k := by
  unfold q_num cl_of
  rw [cl_getD h]
def q_find (L : List cC) (x : Int32) : Option Nat := q_up (fun k => q_set L k == x) L.length 0
def q_can (L : List cC) (x : Int32) : Bool := !k_taut x && (q_find L x).isNone
def q_frst (L : List cC) (b : Int32) : Option Nat := q_up (fun k => (q_set L k &&& b) != 0) L.length 0
def q_cw (L : List cC) (b : Int32) : Nat := q_ct (fun k => (q_set L k &&& b) != 0) L.length 0 0
def q_sub1 (L : List cC) (c : Nat) : Bool := (q_up (fun d => d != c && (q_set L d &&& k_not (q_set L c)) == 0) L.length 0).isSome
def q_sub (L : List cC) : Option Nat := q_up (fun c => q_sub1 L c) L.length 0
def q_st1 (L : List cC) (c : Nat) : Option Nat := q_up (fun d => k_sl (q_set L c) (q_set L d) != 0) L.length 0
def q_str (L : List cC) : Option Nat := q_up (fun c => (q_st1 L c).isSome) L.length 0
def q_isb (L : List cC) (x b : Int32) : Bool := (q_up (fun d => (q_set L d &&& k_con b) != 0 && !k_taut (k_res x (q_set L d) (b ||| k_con b))) L.length 0).isNone
def q_blv (L : List cC) (x : Int32) : Option Nat := q_up (fun v => (x &&& k_both (nI v)) != 0 && q_isb L x (x &&& k_both (nI v))) (11 - 1) 1
def q_bl (L : List cC) (x : Int32) : Int32 := match q_blv L x with
  | some v => x &&& k_both (nI v)
  | none => 0
def q_blk (L : List cC) : Option Nat := q_up (fun c => q_bl L (q_set L c) != 0) L.length 0
def q_aat (L : List cC) (t : Int32) : Bool := (q_up (fun k => (q_set L k &&& t) == 0) L.length 0).isNone
/-- a literal is taken from the k-th; if it is then the same as another, that with the greater number goes -/
def q_take (L : List cC) (k : Nat) (b : Int32) : List cC := match q_find L (q_set L k &&& k_not b) with
  | none => L.set k (q_set L k &&& k_not b, q_num L k)
  | some o => (L.set k (q_set L k &&& k_not b, q_num L k)).eraseIdx (max k o)
def q_tfa (b : Int32) : Nat → List cC → List cC
  | 0, L => L
  | f + 1, L => match q_frst L b with
    | none => L
    | some k => q_tfa b f (q_take L k b)
theorem q_get_set {L : List cC} {k : Nat} (h : k < L.length) : L[k]? = some (q_set L k, q_num L k) := by
  unfold q_set q_num
  rw [List.getD_eq_getElem?_getD, List.getElem?_eq_getElem h]
  rfl
theorem q_set_get {L : List cC} {k : Nat} {c : cC} (h : L[k]? = some c) : q_set L k = c.1 ∧ q_num L k = c.2 := by
  unfold q_set q_num
  rw [List.getD_eq_getElem?_getD, h]
  exact ⟨rfl, rfl⟩
/-- what every set of the value keeps to -/
def g_cl (L : List cC) : Prop := ∀ c ∈ L, k_ok c.1 ∧ k_nt c.1
theorem g_cl_at {L : List cC} (h : g_cl L) {k : Nat} (hk : k < L.length) : k_ok (q_set L k) ∧ k_nt (q_set L k) := h _ (List.mem_of_getElem? (q_get_set hk))
theorem g_cl_set {L : List cC} (h : g_cl L) {k : Nat} {x y : Int32} (hx : k_ok x ∧ k_nt x) : g_cl (L.set k (x, y)) := fun c hc => by
  rcases List.mem_or_eq_of_mem_set hc with h1 | h1
  · exact h c h1
  · rw [h1]; exact hx
theorem g_cl_erase {L : List cC} (h : g_cl L) {k : Nat} : g_cl (L.eraseIdx k) := fun c hc => h c (List.mem_of_mem_eraseIdx hc)
theorem g_cl_filter {L : List cC} (h : g_cl L) {p : cC → Bool} : g_cl (L.filter p) := fun c hc => h c (List.mem_filter.mp hc).1
theorem g_cl_take {L : List cC} (h : g_cl L) {k : Nat} (hk : k < L.length) {b : Int32} : g_cl (q_take L k b) := by
  have h1 := g_cl_at h hk
  have h2 : g_cl (L.set k (q_set L k &&& k_not b, q_num L k)) := g_cl_set h ⟨k_ok_and h1.1, k_nt_and h1.2⟩
  unfold q_take
  split
  · exact h2
  · exact g_cl_erase h2
theorem q_take_len {L : List cC} {k : Nat} {b : Int32} : (q_take L k b).length ≤ L.length := by
  unfold q_take
  split
  · rw [List.length_set]
    exact Nat.le_refl _
  · rw [List.length_eraseIdx, List.length_set]
    split <;> omega
theorem q_frst_lt {L : List cC} {b : Int32} {k : Nat} (h : q_frst L b = some k) : k < L.length := by
  have := q_up_some h
  omega
theorem g_cl_tfa {b : Int32} : ∀ {f : Nat} {L : List cC}, g_cl L → g_cl (q_tfa b f L)
  | 0, _, h => h
  | f + 1, L, h => by
    show g_cl (match q_frst L b with
      | none => L
      | some k => q_tfa b f (q_take L k b))
    cases hq : q_frst L b with
    | none => exact h
    | some k => exact g_cl_tfa (g_cl_take h (q_frst_lt hq))
theorem q_tfa_len {b : Int32} : ∀ {f : Nat} {L : List cC}, (q_tfa b f L).length ≤ L.length
  | 0, _ => Nat.le_refl _
  | f + 1, L => by
    show (match q_frst L b with
      | none => L
      | some k => q_tfa b f (q_take L k b)).length ≤ L.length
    cases hq : q_frst L b with
    | none => exact Nat.le_refl _
    | some k => exact Nat.le_trans q_tfa_len q_take_len
