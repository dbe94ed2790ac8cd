/-! Rows for the writers. -/
theorem fl_f {n : Nat} {se nu : Nat → Int32} {p : cC → Bool} (h : p (se n, nu n) = false) : (cl_of (n + 1) se nu).filter p = (cl_of n se nu).filter p := by
  unfold cl_of
  rw [cl_succ, List.filter_append, List.filter_cons, if_neg (by rw [h]; exact Bool.false_ne_true)]
  simp
theorem fl_t {n : Nat} {se nu : Nat → Int32} {p : cC → Bool} (h : p (se n, nu n) = true) : (cl_of (n + 1) se nu).filter p = (cl_of n se nu).filter p ++ [(se n, nu n)] := by
  unfold cl_of
  rw [cl_succ, List.filter_append, List.filter_cons, if_pos h]
  simp
theorem tfa_none {b : Int32} {f : Nat} {L : List cC} (h : q_frst L b = none) : q_tfa b f L = L := by
  cases f with
  | zero => rfl
  | succ f =>
    show (match q_frst L b with
      | none => L
      | some k => q_tfa b f (q_take L k b)) = L
    rw [h]
theorem tfa_some {b : Int32} {t k : Nat} {L : List cC} (h : q_frst L b = some k) (ht : t < 40) : q_tfa b (40 - t) L = q_tfa b (40 - (t + 1)) (q_take L k b) := by
  obtain ⟨f, hf⟩ : ∃ f, 40 - t = f + 1 := ⟨40 - t - 1, by omega⟩
  rw [hf, show 40 - (t + 1) = f by omega]
  show (match q_frst L b with
      | none => L
      | some k => q_tfa b f (q_take L k b)) = _
  rw [h]
theorem tk_len {u z : XS} {k : Nat} {b : Int32} (h : vXL z = q_take (vXL u) k b) : xn z ≤ xn u := by
  rw [← vXL_len z, ← vXL_len u, h]
  exact q_take_len
def q_stN (L : List cC) (c : Nat) : Int32 × List cC := match q_st1 L c with
  | none => (0, L)
  | some d => (1, q_take L c (k_sl (q_set L c) (q_set L d)))
