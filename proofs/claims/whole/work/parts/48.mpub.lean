/-! Rows for the reference's public methods. -/
def m_put (t x : Int32) : Int32 := if x ≤ 0 then t &&& k_not (1 <<< ((-x) &&& 31)) else t ||| (1 <<< (x &&& 31))
theorem ii_2 (j : Nat) : nI (2 * j) + Int32.ofInt 2 = nI (2 * (j + 1)) := by
  show nI (2 * j) + nI 2 = _
  rw [nI_add]
  rfl
/-- a literal: v or -v -/
theorem pos_2046 : ∀ v, v < 11 → 1 ≤ v → k_pos (nI v) &&& 2046 = k_pos (nI v) ∧ k_ush (k_pos (nI v)) 16 = 0 ∧ k_neg (nI v) &&& 2046 = 0 ∧ k_ush (k_neg (nI v)) 16 = k_pos (nI v) ∧ ¬ nI v ≤ 0 ∧ -(nI v) ≤ 0 ∧ k_not 0 = -1 := by decide +kernel
theorem and_m1 (x : Int32) : x &&& (-1) = x := by
  apply b_ext
  intro i hi
  rw [b_and, b_m1 i hi, Bool.and_true]
theorem or_0 (x : Int32) : x ||| 0 = x := by
  apply b_ext
  intro i hi
  rw [b_or, b_0, Bool.or_false]
theorem put_mt {t y : Int32} (h : islt y) : m_put t y = k_mt t (m_bit y) := by
  obtain ⟨v, h1, h2, e | e⟩ := h
  · obtain ⟨a1, a2, a3, a4, a5, a6, a7⟩ := pos_2046 v (by omega) h1
    rw [e, m_bit_pos v (by omega) h1]
    unfold m_put k_mt
    rw [if_neg a5, a1, a2, a7, and_m1]
    rfl
  · obtain ⟨a1, a2, a3, a4, a5, a6, a7⟩ := pos_2046 v (by omega) h1
    rw [e, m_bit_neg v (by omega) h1]
    unfold m_put k_mt
    rw [if_pos a6, a3, a4, or_0, Int32.neg_neg]
    rfl
theorem okv_mt {t y : Int32} (ht : k_okv t) (h : islt y) : k_okv (k_mt t (m_bit y)) := by
  obtain ⟨v, h1, h2, e | e⟩ := h
  · obtain ⟨a1, a2, a3, a4, a5, a6, a7⟩ := pos_2046 v (by omega) h1
    rw [e, m_bit_pos v (by omega) h1]
    unfold k_mt
    rw [a1, a2, a7, and_m1]
    intro i hi
    rw [b_or] at hi
    rcases Bool.or_eq_true_iff.mp hi with z | z
    · exact ht i z
    · rw [bt_pos v (by omega) i (bt_lt z)] at z
      have := of_decide_eq_true z
      omega
  · obtain ⟨a1, a2, a3, a4, a5, a6, a7⟩ := pos_2046 v (by omega) h1
    rw [e, m_bit_neg v (by omega) h1]
    unfold k_mt
    rw [a3, a4, or_0]
    intro i hi
    rw [b_and] at hi
    exact ht i (Bool.and_eq_true_iff.mp hi).1
theorem mtrue_f {x t : Int32} (hx : k_ok x) (ht : k_okv t) : m_true x t = false ↔ x &&& k_tl t = 0 := by
  rw [m_true_eq hx ht, decide_eq_false_iff_not, Classical.not_not]
theorem okv_even : ∀ j, j < 1024 → ∀ i, i < 32 → bt (nI (2 * j)) i = true → 1 ≤ i ∧ i ≤ 10 := by
  intro j hj i hi h
  rw [bt_nat, pk_tn (by omega)] at h
  constructor
  · refine Classical.byContradiction fun hn => ?_
    rw [show i = 0 by omega, Nat.testBit_zero] at h
    simp at h
  · refine Classical.byContradiction fun hn => ?_
    rw [Nat.testBit_lt_two_pow (Nat.lt_of_lt_of_le (show 2 * j < 2 ^ 11 by omega) (Nat.pow_le_pow_right (by decide) (by omega)))] at h
    cases h
theorem fi_aat {L : List cC} (hg : g_cl L) {w : Int32} (hw : k_okv w) : q_ct (fun k => !m_true (q_set L k) w) L.length 0 0 = 0 ↔ q_aat L (k_tl w) = true := by
  unfold q_aat
  constructor
  · intro h
    cases hq : q_up (fun k => (q_set L k &&& k_tl w) == 0) L.length 0 with
    | none => rfl
    | some k =>
      obtain ⟨h1, h2, h3⟩ := q_up_some hq
      have h4 := q_ct_z h k h1 h2
      have h5 : m_true (q_set L k) w = false := (mtrue_f (g_cl_at hg (by omega)).1 hw).mpr (by simpa using h3)
      rw [h5] at h4
      cases h4
  · intro h
    have hn := Option.isNone_iff_eq_none.mp h
    refine q_ct_0 (fun i h1 h2 => ?_) 0
    have h3 := q_up_none hn i h1 h2
    cases hb : m_true (q_set L i) w with
    | true => rfl
    | false =>
      have h4 := (mtrue_f (g_cl_at hg (by omega)).1 hw).mp hb
      rw [h4] at h3
      simp at h3
theorem vMT_at {S : MS} {i : Nat} (h : i < yh S) : q_set (vMT S) i = yes S i ∧ q_num (vMT S) i = m_bit (yel S i) := by
  have e : (vMT S)[i]? = some (yes S i, m_bit (yel S i)) := by
    rw [List.getElem?_map, show (vMR S)[i]? = some (yes S i, yel S i) from cl_get h]
    rfl
  exact q_set_get e
theorem g_st_at {S : MS} (hg : g_st (vMR S)) {i : Nat} (h : i < yh S) : k_ok (yes S i) ∧ islt (yel S i) := hg (yes S i, yel S i) (List.mem_of_getElem? (i := i) (cl_get h))
theorem isV_split {x : Int32} : k_isV x = true ↔ ¬ x < 1 ∧ ¬ 10 < x := by
  unfold k_isV
  rw [Bool.and_eq_true_iff, decide_eq_true_iff, decide_eq_true_iff]
