/-! What ties the class's object and the reference's: the same value, and that it is good. -/
def LI (S : XS) (T : MS) : Prop :=
  (xd S = yd T ∧ xt S = yt T ∧ xm S = ym T ∧ vXL S = vML T ∧ vXT S = vMT T ∧ vXG S = vMG T) ∧ okX S ∧ okM T ∧ g_cl (vXL S) ∧ k_ok (xd S) ∧ k_okv (xt S) ∧ g_st (vMR T) ∧ ∀ x ∈ vXG S, k_ok x
section TI
variable {S : XS} {T : MS}
theorem LI.n (h : LI S T) : yn T = xn S := by
  have z := congrArg List.length h.1.2.2.2.1
  rw [vXL_len, vML_len] at z
  exact z.symm
theorem LI.h (h : LI S T) : yh T = xh S := by
  have z := congrArg List.length h.1.2.2.2.2.1
  rw [vXT_len, vMT_len] at z
  exact z.symm
theorem LI.g (h : LI S T) : yg T = xg S := by
  have z := congrArg List.length h.1.2.2.2.2.2
  rw [show (vXG S).length = xg S from cl_len _ _, show (vMG T).length = yg T from cl_len _ _] at z
  exact z.symm
theorem LI.gl (h : LI S T) : g_cl (vML T) := by rw [← h.1.2.2.2.1]; exact h.2.2.2.1
theorem LI.n40 (h : LI S T) : yn T ≤ 40 := by rw [h.n]; exact h.2.1.1
/-- the reference's flag is no part of it -/
theorem LI.th (h : LI S T) (th : Int32) : LI S (yk (yd T) (yn T) (ym T) (yh T) (yg T) (yt T) th (yse T) (ynu T) (yes T) (yel T) (ygi T)) := h
/-- nor is the class's row of resolvents -/
theorem LI.re (h : LI S T) (f : Nat → Int32) : LI (xk (xd S) (xt S) (xn S) (xm S) (xh S) (xg S) (xse S) (xnu S) (xes S) (xel S) (xgi S) f) T := h
theorem isL_lt {x : Int32} (h : k_isL x = true) : islt x := by
  unfold k_isL at h
  simp only [Bool.and_eq_true, decide_eq_true_eq] at h
  obtain ⟨⟨h0, h1⟩, h2⟩ := h
  have e : (x.toInt.toNat : Int) = x.toInt ∨ ((-x.toInt).toNat : Int) = -x.toInt := by omega
  have a1 : -10 ≤ x.toInt := by
    have z := Int32.not_lt.mp h1
    rw [Int32.le_iff_toInt_le] at z
    exact z
  have a2 : x.toInt ≤ 10 := by
    have z := Int32.not_lt.mp h2
    rw [Int32.le_iff_toInt_le] at z
    exact z
  have a0 : x.toInt ≠ 0 := fun z => h0 (Int32.toInt_inj.mp z)
  rcases Int.lt_or_lt_of_ne a0 with z | z
  · refine ⟨(-x.toInt).toNat, by omega, by omega, Or.inr ?_⟩
    apply Int32.toInt_inj.mp
    have y : (nI (-x.toInt).toNat).toInt = ((-x.toInt).toNat : Int) := nI_toInt (by omega)
    rw [Int32.toInt_neg, y]
    have y2 : ((-x.toInt).toNat : Int) = -x.toInt := by omega
    rw [y2, Int.neg_neg]
    exact (Int.bmod_eq_of_le (Int.le_trans (by decide) a1) (Int.lt_of_le_of_lt a2 (by decide))).symm
  · refine ⟨x.toInt.toNat, by omega, by omega, Or.inl ?_⟩
    apply Int32.toInt_inj.mp
    have y : (nI x.toInt.toNat).toInt = (x.toInt.toNat : Int) := nI_toInt (by omega)
    rw [y]
    omega
theorem lit_p : ∀ v, v < 11 → 1 ≤ v → k_lit (nI v) = m_bit (nI v) ∧ k_lit (-(nI v)) = m_bit (-(nI v)) := by decide +kernel
theorem ent_p : ∀ v, v < 11 → 1 ≤ v → k_ent (m_bit (nI v)) = nI v ∧ k_ent (m_bit (-(nI v))) = -(nI v) := by decide +kernel
theorem lit_bit {x : Int32} (h : islt x) : k_lit x = m_bit x := by
  obtain ⟨v, h1, h2, z⟩ := h
  rcases z with rfl | rfl
  · exact (lit_p v (by omega) h1).1
  · exact (lit_p v (by omega) h1).2
theorem ent_bit {x : Int32} (h : islt x) : k_ent (m_bit x) = x := by
  obtain ⟨v, h1, h2, z⟩ := h
  rcases z with rfl | rfl
  · exact (ent_p v (by omega) h1).1
  · exact (ent_p v (by omega) h1).2
theorem bit_ok {x : Int32} (h : islt x) : k_ok (m_bit x) := by
  obtain ⟨v, h1, h2, z⟩ := h
  rcases z with rfl | rfl
  · rw [m_bit_pos v (by omega) h1]; exact k_ok_pos h1 h2
  · rw [m_bit_neg v (by omega) h1]; exact k_ok_neg h1 h2
/-- literal -/
theorem LI.lit (h : LI S T) {x : Int32} (h9 : k_isL x = true) (th : Int32) : k_bc (xd S ||| k_lit x) = nI (k_pc (yd T ||| m_bit x)) ∧
    LI (xk (xd S ||| k_lit x) (xt S) (xn S) (xm S) (xh S) (xg S) (xse S) (xnu S) (xes S) (xel S) (xgi S) (xre S)) (yk (yd T ||| m_bit x) (yn T) (ym T) (yh T) (yg T) (yt T) th (yse T) (ynu T) (yes T) (yel T) (ygi T)) := by
  have hl := isL_lt h9
  obtain ⟨⟨e1, e2, e3, e4, e5, e6⟩, o1, o2, g1, d1, t1, s1, v1⟩ := h
  have d2 : k_ok (xd S ||| k_lit x) := k_ok_or d1 (by rw [lit_bit hl]; exact bit_ok hl)
  have e7 : xd S ||| k_lit x = yd T ||| m_bit x := by rw [e1, lit_bit hl]
  exact ⟨by rw [k_bc_pc d2, e7], ⟨e7, e2, e3, e4, e5, e6⟩, o1, o2, g1, d2, t1, s1, v1⟩
/-- clause, number, entry -/
theorem LI.at (h : LI S T) {k : Nat} (hk : k < xn S) : xse S k = yse T k ∧ xnu S k = ynu T k := by
  have e : (vXL S)[k]? = (vML T)[k]? := by rw [h.1.2.2.2.1]
  rw [show (vXL S)[k]? = some (xse S k, xnu S k) from cl_get hk, show (vML T)[k]? = some (yse T k, ynu T k) from cl_get (by rw [h.n]; exact hk)] at e
  have z := Option.some.inj e
  exact ⟨congrArg Prod.fst z, congrArg Prod.snd z⟩
theorem LI.ent (h : LI S T) {k : Nat} (hk : k < xh S) : k_ent (xel S k) = yel T k := by
  have hk2 : k < yh T := by rw [h.h]; exact hk
  have e : (vXT S)[k]? = (vMT T)[k]? := by rw [h.1.2.2.2.2.1]
  rw [show (vXT S)[k]? = some (xes S k, xel S k) from cl_get hk, List.getElem?_map, show (vMR T)[k]? = some (yes T k, yel T k) from cl_get hk2] at e
  have z : xel S k = m_bit (yel T k) := congrArg Prod.snd (Option.some.inj e)
  rw [z]
  exact ent_bit (g_st_at h.2.2.2.2.2.2.1 hk2).2
/-- failing, unmet -/
theorem LI.fail (h : LI S T) : q_ct (fun k => (xse S k &&& k_tl (xt S)) == 0) (xn S) 0 0 = q_ct (fun k => !m_true (q_set (vML T) k) (yt T)) (vML T).length 0 0 := by
  rw [vML_len, h.n]
  refine q_ct_congr _ _ _ (fun i _ hi => ?_)
  have hi2 : i < xn S := by omega
  have g := g_cl_at h.2.2.2.1 (k := i) (by rw [vXL_len]; exact hi2)
  rw [← h.1.2.2.2.1, ← h.1.2.1, m_true_eq g.1 h.2.2.2.2.2.1, show q_set (vXL S) i = xse S i from q_set_of hi2]
  by_cases z : xse S i &&& k_tl (xt S) = 0
  · simp [z]
  · simp [z]
theorem LI.unm (h : LI S T) : q_ct (fun k => (xgi S k &&& k_tl (xt S)) == 0) (xg S) 0 0 = q_ct (fun k => !m_true (ygi T k) (yt T)) (yg T) 0 0 := by
  rw [h.g]
  refine q_ct_congr _ _ _ (fun i _ hi => ?_)
  have hi2 : i < xg S := by omega
  have e : (vXG S)[i]? = (vMG T)[i]? := by rw [h.1.2.2.2.2.2]
  rw [show (vXG S)[i]? = some (xgi S i) from cl_get hi2, show (vMG T)[i]? = some (ygi T i) from cl_get (by rw [h.g]; exact hi2)] at e
  have z9 : xgi S i = ygi T i := Option.some.inj e
  have g : k_ok (xgi S i) := h.2.2.2.2.2.2.2 _ (List.mem_of_getElem? (i := i) (cl_get hi2))
  rw [← z9, ← h.1.2.1, m_true_eq g h.2.2.2.2.2.1]
  by_cases z : xgi S i &&& k_tl (xt S) = 0
  · simp [z]
  · simp [z]
end TI
