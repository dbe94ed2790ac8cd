/-! More of the tie: assign, extend, step, eliminate. -/
section TJ
variable {S : XS} {T : MS}
theorem isV_of {x : Int32} (h : k_isV x = true) : ∃ v : Nat, 1 ≤ v ∧ v ≤ 10 ∧ x = nI v := by
  have hL : k_isL x = true := by
    obtain ⟨h1, h2⟩ := isV_split.mp h
    unfold k_isL
    simp only [Bool.and_eq_true, decide_eq_true_eq]
    have a1 := Int32.not_lt.mp h1
    rw [Int32.le_iff_toInt_le] at a1
    have a1' : 1 ≤ x.toInt := a1
    refine ⟨⟨fun z => ?_, fun z => ?_⟩, h2⟩
    · rw [z] at a1'; exact absurd a1' (by decide)
    · rw [Int32.lt_iff_toInt_lt] at z
      have z' : x.toInt < -10 := z
      omega
  obtain ⟨v, h1, h2, z⟩ := isL_lt hL
  rcases z with z | z
  · exact ⟨v, h1, h2, z⟩
  · rw [z] at h
    exact absurd h (by
      have key : ∀ v, v < 11 → 1 ≤ v → ¬ k_isV (-(nI v)) = true := by decide +kernel
      exact key v (by omega) h1)
theorem as_bit {t : Int32} {v : Nat} (h1 : 1 ≤ v) (h2 : v ≤ 10) : (¬ t &&& k_pos (nI v) = 0) ↔ (t >>> (nI v &&& 31)) &&& 1 = 1 := by
  have key : bt t v = true ↔ (t >>> (nI v &&& 31)) &&& 1 = 1 := by
    constructor
    · intro hb
      apply b_ext
      intro i hi
      rw [b_and, b_1 i hi, b_sshr v (by omega) t hi]
      by_cases z : i = 0
      · rw [z, if_pos (by omega), Nat.add_zero, hb]
        rfl
      · rw [decide_eq_false z, Bool.and_false]
    · intro hb
      have z := congrArg (fun x => bt x 0) hb
      have z2 : bt ((t >>> (nI v &&& 31)) &&& 1) 0 = bt 1 0 := z
      rw [b_and, b_1 0 (by omega), b_sshr v (by omega) t (by omega), if_pos (by omega), Nat.add_zero] at z2
      simpa using z2
  rw [← key]
  constructor
  · intro h
    obtain ⟨i, hi, hb⟩ := bt_ne.mp h
    rw [b_and, bt_pos v (by omega) i hi, Bool.and_eq_true_iff, decide_eq_true_iff] at hb
    rw [← hb.2]
    exact hb.1
  · intro h
    refine bt_ne.mpr ⟨v, by omega, ?_⟩
    rw [b_and, bt_pos v (by omega) v (by omega), h, decide_eq_true rfl]
    rfl
theorem LI.asg (h : LI S T) {v : Nat} (h1 : 1 ≤ v) (h2 : v ≤ 10) (b th : Int32) :
    LI (xk (xd S) (k_mt (xt S) (if b = 0 then k_neg (nI v) else k_pos (nI v))) (xn S) (xm S) (xh S) (xg S) (xse S) (xnu S) (xes S) (xel S) (xgi S) (xre S)) (yk (yd T) (yn T) (ym T) (yh T) (yg T) (m_put (yt T) (if b = 0 then -(nI v) else nI v)) th (yse T) (ynu T) (yes T) (yel T) (ygi T)) := by
  have hl : islt (if b = 0 then -(nI v) else nI v) := by
    by_cases z : b = 0
    · rw [if_pos z]; exact ⟨v, h1, h2, Or.inr rfl⟩
    · rw [if_neg z]; exact ⟨v, h1, h2, Or.inl rfl⟩
  have hm : (if b = 0 then k_neg (nI v) else k_pos (nI v)) = m_bit (if b = 0 then -(nI v) else nI v) := by
    by_cases z : b = 0
    · rw [if_pos z, if_pos z, m_bit_neg v (by omega) h1]
    · rw [if_neg z, if_neg z, m_bit_pos v (by omega) h1]
  obtain ⟨⟨e1, e2, e3, e4, e5, e6⟩, o1, o2, g1, d1, t1, s1, v1⟩ := h
  refine ⟨⟨e1, ?_, e3, e4, e5, e6⟩, o1, o2, g1, d1, ?_, s1, v1⟩
  · show k_mt (xt S) _ = m_put (yt T) _
    rw [put_mt hl, hm, e2]
  · show k_okv (k_mt (xt S) _)
    rw [hm]
    exact okv_mt t1 hl
/-- extend -/
theorem ext_okv (T : MS) (hs : g_st (vMR T)) : ∀ (j : Nat) (t : Int32) (a : Nat), j ≤ yh T → k_okv t → k_okv (q_ext (vMT T) j t a).2
  | 0, _, _, _, ht => ht
  | j + 1, t, a, hj, ht => by
    by_cases z : q_set (vMT T) j &&& k_tl t = 0
    · rw [ext_t z]
      refine ext_okv T hs j _ _ (by omega) ?_
      rw [show q_num (vMT T) j = m_bit (yel T j) from (vMT_at (S := T) (i := j) (by omega)).2]
      exact okv_mt ht (g_st_at hs (by omega)).2
    · rw [ext_f z]
      exact ext_okv T hs j t a (by omega) ht
theorem LI.ext (h : LI S T) (th : Int32) : (q_ext (vXT S) (xh S) (xt S) 0).1 = (q_ext (vMT T) (yh T) (yt T) 0).1 ∧
    LI (xk (xd S) (q_ext (vXT S) (xh S) (xt S) 0).2 (xn S) (xm S) (xh S) (xg S) (xse S) (xnu S) (xes S) (xel S) (xgi S) (xre S)) (yk (yd T) (yn T) (ym T) (yh T) (yg T) (q_ext (vMT T) (yh T) (yt T) 0).2 th (yse T) (ynu T) (yes T) (yel T) (ygi T)) := by
  have eh := h.h
  obtain ⟨⟨e1, e2, e3, e4, e5, e6⟩, o1, o2, g1, d1, t1, s1, v1⟩ := h
  have e : q_ext (vXT S) (xh S) (xt S) 0 = q_ext (vMT T) (yh T) (yt T) 0 := by rw [e5, e2, eh]
  refine ⟨by rw [e], ⟨e1, congrArg Prod.snd e, e3, e4, e5, e6⟩, o1, o2, g1, d1, ?_, s1, v1⟩
  show k_okv (q_ext (vXT S) (xh S) (xt S) 0).2
  rw [e]
  exact ext_okv T s1 _ _ _ (Nat.le_refl _) (by rw [← e2]; exact t1)
/-- step -/
theorem vs_all (w : Nat) : ∀ (f n : Nat) (L M : List cC), (v_steps w f n L M).2.2.1.length ≤ L.length ∧ (M.length ≤ 200 → (v_steps w f n L M).2.2.2.length ≤ 200) ∧ (g_cl L → g_cl (v_steps w f n L M).2.2.1)
  | 0, _, _, _ => ⟨Nat.le_refl _, id, id⟩
  | f + 1, n, L, M => by
    have A := vt_all w L M
    by_cases z : (v_turn w L M).1 = 1
    · rw [vs_1 z]
      have B := vs_all w f (n + 1) (v_turn w L M).2.1 (v_turn w L M).2.2
      exact ⟨Nat.le_trans B.1 A.2.1, fun y => B.2.1 (A.2.2.1 y), fun y => B.2.2 (A.2.2.2.2 y)⟩
    · rw [vs_0 z]
      exact ⟨A.2.1, A.2.2.1, A.2.2.2.2⟩
theorem LI.step (h : LI S T) {w f n : Nat} {u : XS} {z : MS} (x1 : vXL u = (v_steps w f n (vXL S) (vXT S)).2.2.1) (x2 : vXT u = (v_steps w f n (vXL S) (vXT S)).2.2.2) (x3 : x_samT S u)
    (y1 : vML z = (v_steps w f n (vML T) (vMT T)).2.2.1) (y2 : vMT z = (v_steps w f n (vML T) (vMT T)).2.2.2) (y3 : y_samH T z) (y4 : g_stp T z) : LI u z := by
  have A := vs_all w f n (vXL S) (vXT S)
  obtain ⟨⟨e1, e2, e3, e4, e5, e6⟩, o1, o2, g1, d1, t1, s1, v1⟩ := h
  rw [← e4, ← e5] at y1 y2
  have eL : vXL u = vML z := x1.trans y1.symm
  have eT : vXT u = vMT z := x2.trans y2.symm
  have l1 : (vXL u).length ≤ 40 := by
    rw [x1]
    exact Nat.le_trans A.1 (by rw [vXL_len]; exact o1.1)
  have l2 : (vXT u).length ≤ 200 := by
    rw [x2]
    exact A.2.1 (by rw [vXT_len]; exact o1.2.1)
  unfold x_samT at x3
  unfold y_samH at y3
  have f1 : xd u = xd S := by rw [x3]
  have f2 : xt u = xt S := by rw [x3]
  have f3 : xm u = xm S := by rw [x3]
  have f4 : vXG u = vXG S := by rw [x3]
  have f5 : xg u = xg S := by rw [x3]
  have k1 : yd z = yd T := by rw [y3]
  have k2 : yt z = yt T := by rw [y3]
  have k3 : ym z = ym T := by rw [y3]
  have k4 : vMG z = vMG T := by rw [y3]
  have k5 : yg z = yg T := by rw [y3]
  have l3 : yn z ≤ 40 := by rw [eL, vML_len] at l1; exact l1
  have l4 : yh z ≤ 200 := by rw [eT, vMT_len] at l2; exact l2
  exact ⟨⟨by rw [f1, k1]; exact e1, by rw [f2, k2]; exact e2, by rw [f3, k3]; exact e3, eL, eT, by rw [f4, k4]; exact e6⟩, ⟨by rw [← vXL_len]; exact l1, by rw [← vXT_len]; exact l2, by rw [f5]; exact o1.2.2⟩, ⟨by omega, l4, by rw [k5]; exact o2.2.2⟩,
    by rw [x1]; exact A.2.2 g1, by rw [f1]; exact d1, by rw [f2]; exact t1, y4 s1, by rw [f4]; exact v1⟩
end TJ
