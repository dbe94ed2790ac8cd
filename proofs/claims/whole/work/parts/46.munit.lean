/-! Rows for unit, block and step of the reference. -/
theorem vMT_push (S : MS) (x y : Int32) : (cl_of (yh S + 1) (upd (yes S) (yh S) x) (upd (yel S) (yh S) y)).map (fun c => (c.1, m_bit c.2)) = vMT S ++ [(x, m_bit y)] := by
  rw [mk_cl, List.map_append]
  rfl
theorem q_app_z {n : Nat} {f g : Nat → Int32} (p : cC → Bool) : cl_of n f g = (cl_of n f g).take n ++ ((cl_of n f g).drop n).filter p := by
  rw [List.take_of_length_le (by rw [cl_of_len]; exact Nat.le_refl _), List.drop_of_length_le (by rw [cl_of_len]; exact Nat.le_refl _)]
  simp
theorem nI_leI_ge {n j : Nat} (hn : n ≤ 90) (h : nI n ≤ nI j) : n ≤ j := by
  rcases Nat.lt_or_ge j n with z | z
  · exact absurd h (nI_ge z (by omega))
  · exact z
theorem nI_lt_of {n j : Nat} (hn : n ≤ 90) (h : ¬ nI n ≤ nI j) (hj : j < 2 ^ 31 := by omega) : j < n := by
  rcases Nat.lt_or_ge j n with z | z
  · exact z
  · exact absurd (nI_le z hj) h
def islt (y : Int32) : Prop := ∃ v : Nat, 1 ≤ v ∧ v ≤ 10 ∧ (y = nI v ∨ y = -(nI v))
def g_st (R : List cC) : Prop := ∀ c ∈ R, k_ok c.1 ∧ islt c.2
def g_stp (S u : MS) : Prop := g_st (vMR S) → g_st (vMR u)
theorem g_stp.rf (S : MS) : g_stp S S := id
theorem g_st_push {n : Nat} {f g : Nat → Int32} {x y : Int32} (h : g_st (cl_of n f g)) (hx : k_ok x) (hy : islt y) : g_st (cl_of (n + 1) (upd f n x) (upd g n y)) := by
  rw [mk_cl]
  intro c hc
  rcases List.mem_append.mp hc with z | z
  · exact h c z
  · rw [List.mem_singleton.mp z]
    exact ⟨hx, hy⟩
theorem y_same.gs {S u : MS} (h : y_same S u) : g_stp S u := by
  intro hs
  have e : vMR u = vMR S := by
    unfold y_same at h
    rw [h]
  rw [e]
  exact hs
theorem isl.lt {x y : Int32} (h : isl x y) : islt y := by
  obtain ⟨v, h1, h2, z⟩ := h
  exact ⟨v, h1, h2, z.elim (fun z => Or.inl z.2) (fun z => Or.inr z.2)⟩
