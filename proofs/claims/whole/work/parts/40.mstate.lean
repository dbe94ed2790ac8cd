/-! The reference's state, and the value read off it. -/
abbrev MS : Type := (Int32 × Nat × Int32 × Nat × Nat × Int32 × Int32) × (Nat → Int32) × (Nat → Int32) × (Nat → Int32) × (Nat → Int32) × (Nat → Int32)
abbrev yd (S : MS) : Int32 := S.1.1
abbrev yn (S : MS) : Nat := S.1.2.1
abbrev ym (S : MS) : Int32 := S.1.2.2.1
abbrev yh (S : MS) : Nat := S.1.2.2.2.1
abbrev yg (S : MS) : Nat := S.1.2.2.2.2.1
abbrev yt (S : MS) : Int32 := S.1.2.2.2.2.2.1
abbrev yth (S : MS) : Int32 := S.1.2.2.2.2.2.2
abbrev yse (S : MS) : Nat → Int32 := S.2.1
abbrev ynu (S : MS) : Nat → Int32 := S.2.2.1
abbrev yes (S : MS) : Nat → Int32 := S.2.2.2.1
abbrev yel (S : MS) : Nat → Int32 := S.2.2.2.2.1
abbrev ygi (S : MS) : Nat → Int32 := S.2.2.2.2.2
abbrev yk (d : Int32) (n : Nat) (mm : Int32) (h g : Nat) (t th : Int32) (se nu es el gi : Nat → Int32) : MS := ((d, n, mm, h, g, t, th), se, nu, es, el, gi)
abbrev wM (q : Nat → Nat) (cA : ClassId) (S : MS) : va_W := [(q 0, .inr (1, [.int (yd S), .int (nI (yn S)), .ref (q 1), .ref (q 2), .int (ym S), .int (nI (yh S)), .ref (q 3), .ref (q 4), .int (nI (yg S)), .ref (q 5), .int (yt S), .int (yth S)])), (q 1, .inl (cA, 90, .inl (yse S))), (q 2, .inl (cA, 90, .inl (ynu S))), (q 3, .inl (cA, 200, .inl (yes S))), (q 4, .inl (cA, 200, .inl (yel S))), (q 5, .inl (cA, 100, .inl (ygi S)))]
def okM (S : MS) : Prop := yn S ≤ 90 ∧ yh S ≤ 200 ∧ yg S ≤ 100
abbrev vML (S : MS) : List cC := cl_of (yn S) (yse S) (ynu S)
abbrev vMR (S : MS) : List cC := cl_of (yh S) (yes S) (yel S)
/-- the stack, its literals as bits -/
abbrev vMT (S : MS) : List cC := (vMR S).map (fun c => (c.1, m_bit c.2))
abbrev vMG (S : MS) : List Int32 := cl_lst (yg S) (ygi S)
theorem vML_len (S : MS) : (vML S).length = yn S := cl_of_len _ _ _
theorem vMT_len (S : MS) : (vMT S).length = yh S := by rw [List.length_map]; exact cl_of_len _ _ _
def y_same (S u : MS) : Prop := u = yk (yd S) (yn u) (ym S) (yh S) (yg S) (yt S) (yth S) (yse u) (ynu u) (yes S) (yel S) (ygi S)
theorem y_same.rf (S : MS) : y_same S S := rfl
theorem y_same.tr {S u z : MS} (h1 : y_same S u) (h2 : y_same u z) : y_same S z := by
  unfold y_same at h1 h2 ⊢
  rw [h1] at h2
  exact h2
def y_samT (S u : MS) : Prop := u = yk (yd S) (yn u) (ym S) (yh u) (yg S) (yt S) (yth S) (yse u) (ynu u) (yes u) (yel u) (ygi S)
theorem y_same.T {S u : MS} (h : y_same S u) : y_samT S u := by
  unfold y_same at h
  unfold y_samT
  rw [h]
theorem y_samT.tr {S u z : MS} (h1 : y_samT S u) (h2 : y_samT u z) : y_samT S z := by
  unfold y_samT at h1 h2 ⊢
  rw [h1] at h2
  exact h2
theorem y_same.ok {S u : MS} (h : y_same S u) (hok : okM S) (hn : yn u ≤ yn S) : okM u := by
  obtain ⟨h1, h2, h3⟩ := hok
  unfold y_same at h
  refine ⟨Nat.le_trans hn h1, ?_, ?_⟩
  · rw [h]; exact h2
  · rw [h]; exact h3
theorem y_same.TT {S u : MS} (h : y_same S u) : vMT u = vMT S := by
  unfold y_same at h
  rw [h]
theorem y_samT.ok {S u : MS} (h : y_samT S u) (hg : yg S ≤ 100) (h1 : (vML u).length ≤ 90) (h2 : (vMT u).length ≤ 200) : okM u := by
  rw [vML_len] at h1
  rw [vMT_len] at h2
  unfold y_samT at h
  exact ⟨h1, h2, by rw [h]; exact hg⟩
-- small rows
theorem mb_both : ∀ v, v < 11 → 1 ≤ v → m_bit (nI v) ||| m_bit (-(nI v)) = k_both (nI v) := by decide +kernel
theorem mb_pp : ∀ k, k < 11 → 1 ≤ k → ∀ v, v < 11 → 1 ≤ v → (m_bit (nI k) = k_pos (nI v) ↔ k = v) := by decide +kernel
theorem mb_np : ∀ k, k < 11 → 1 ≤ k → ∀ v, v < 11 → 1 ≤ v → ¬ m_bit (-(nI k)) = k_pos (nI v) := by decide +kernel
theorem mb_pn : ∀ k, k < 11 → 1 ≤ k → ∀ v, v < 11 → 1 ≤ v → ¬ m_bit (nI k) = k_neg (nI v) := by decide +kernel
theorem mb_nn : ∀ k, k < 11 → 1 ≤ k → ∀ v, v < 11 → 1 ≤ v → (m_bit (-(nI k)) = k_neg (nI v) ↔ k = v) := by decide +kernel
theorem b_1 : ∀ i, i < 32 → bt 1 i = decide (i = 0) := by decide +kernel
theorem on_step {x : Int32} {k a : Nat} (hk : k < 32) : nI a + (k_ush x (nI k) &&& 1) = nI (if bt x k then a + 1 else a) := by
  have e : k_ush x (nI k) &&& 1 = if bt x k then 1 else 0 := by
    apply b_ext
    intro i hi
    rw [b_and, b_1 i hi]
    have e1 : bt (k_ush x (nI k)) i = bt x (k + i) := b_ushr k hk x i
    rw [e1]
    by_cases h0 : i = 0
    · subst h0
      rw [Nat.add_zero]
      cases bt x k <;> decide
    · rw [decide_eq_false h0, Bool.and_false]
      cases bt x k
      · exact (b_0 i).symm
      · exact (by rw [show (if true = true then (1 : Int32) else 0) = 1 from rfl, b_1 i hi, decide_eq_false h0])
  rw [e]
  cases bt x k
  · show nI a + 0 = nI a
    exact Int32.add_zero _
  · exact nI_1 a
theorem q_ct_if {p : Nat → Bool} {n k a : Nat} (h : k < n) : q_ct p (n - k) k a = q_ct p (n - (k + 1)) (k + 1) (if p k then a + 1 else a) := by
  obtain ⟨f, hf⟩ : ∃ f, n - k = f + 1 := ⟨n - k - 1, by omega⟩
  rw [hf, show n - (k + 1) = f by omega]
  rfl
def m_res (c d v : Int32) : Int32 := (c ||| d) &&& k_not (m_bit v ||| m_bit (-v))
def m_agr (c d : Int32) : Int32 := match q_up (fun v => m_ag c d (nI v)) (11 - 1) 1 with
  | some v => nI v
  | none => 0
theorem q_idx_lt0 {o : Option Nat} (h : ∀ k, o = some k → k < 2 ^ 31) : q_idx o < 0 ↔ o = none := by
  cases o with
  | none => exact ⟨fun _ => rfl, fun _ => by decide⟩
  | some k => exact ⟨fun q => absurd q (nI_pos (h k rfl)), fun q => nomatch q⟩
theorem q_find_lt0 {L : List cC} {x : Int32} (h : L.length < 2 ^ 31) : q_idx (q_find L x) < 0 ↔ q_find L x = none := q_idx_lt0 (fun k hk => by
  have := q_up_some hk
  omega)
