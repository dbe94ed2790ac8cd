/-! Turns: what each keeps, and that the measure falls. -/
theorem vt_0n {L T : List cC} (h : p_unit L = none) : v_turn 0 L T = (0, L, T) := by simp only [v_turn, h]
theorem vt_0s {L T : List cC} {k : Nat} (h : p_unit L = some k) (hT : T.length < 200) : v_turn 0 L T = (1, q_tfa (k_con (q_set L k)) 40 (L.filter (fun c => (c.1 &&& q_set L k) == 0)), T ++ [(q_set L k, q_set L k)]) := by simp only [v_turn, h, if_pos hT]
theorem vt_0f {L T : List cC} {k : Nat} (h : p_unit L = some k) (hT : ¬ T.length < 200) : v_turn 0 L T = (-1, L, T) := by simp only [v_turn, h, if_neg hT]
theorem vt_1n {L T : List cC} (h : q_sub L = none) : v_turn 1 L T = (0, L, T) := by simp only [v_turn, h]
theorem vt_1s {L T : List cC} {k : Nat} (h : q_sub L = some k) : v_turn 1 L T = (1, L.eraseIdx k, T) := by simp only [v_turn, h]
theorem vt_2n {L T : List cC} (h : q_str L = none) : v_turn 2 L T = (0, L, T) := by simp only [v_turn, h]
theorem vt_2s {L T : List cC} {k d : Nat} (h : q_str L = some k) (hd : q_st1 L k = some d) : v_turn 2 L T = (1, q_take L k (k_sl (q_set L k) (q_set L d)), T) := by simp only [v_turn, h, hd]
theorem vt_3n {L T : List cC} (h : q_blk L = none) : v_turn 3 L T = (0, L, T) := by simp only [v_turn, h]
theorem vt_3s {L T : List cC} {k : Nat} (h : q_blk L = some k) (hT : T.length < 200) : v_turn 3 L T = (1, L.eraseIdx k, T ++ [(q_set L k, q_bl L (q_set L k))]) := by simp only [v_turn, h, if_pos hT]
theorem vt_3f {L T : List cC} {k : Nat} (h : q_blk L = some k) (hT : ¬ T.length < 200) : v_turn 3 L T = (-1, L, T) := by simp only [v_turn, h, if_neg hT]
theorem str_d {L : List cC} {k : Nat} (h : q_str L = some k) : k < L.length ∧ ∃ d, q_st1 L k = some d ∧ d < L.length ∧ k_sl (q_set L k) (q_set L d) ≠ 0 := by
  obtain ⟨h1, h2, h3⟩ := q_up_some h
  obtain ⟨d, hd⟩ := Option.isSome_iff_exists.mp h3
  obtain ⟨d1, d2, d3⟩ := q_up_some hd
  exact ⟨by omega, d, hd, by omega, by simpa using d3⟩
theorem sl_and {c d : Int32} (h : k_sl c d ≠ 0) : c &&& k_sl c d ≠ 0 := by
  unfold k_sl at h ⊢
  by_cases hs : k_sing (d &&& k_not c) = true
  · rw [if_pos hs] at h ⊢
    obtain ⟨i, hi, hb⟩ := bt_ne.mp h
    refine bt_ne.mpr ⟨i, hi, ?_⟩
    rw [b_and, hb]
    rw [b_and, Bool.and_eq_true_iff] at hb
    rw [hb.2]
    rfl
  · rw [if_neg hs] at h
    exact absurd rfl h
theorem sing_ne {x : Int32} (h : k_sing x = true) : (x &&& x == 0) = false := by
  rw [beq_eq_false_iff_ne]
  intro q
  have q2 : x = 0 := by
    apply bt_zero.mpr
    intro i hi
    have := bt_zero.mp q i hi
    rw [b_and] at this
    cases hb : bt x i with
    | false => rfl
    | true => rw [hb] at this; cases this
  rw [q2] at h
  exact absurd h (by decide)
theorem v_turn_3 {w : Nat} (L T : List cC) : v_turn (w + 3) L T = v_turn 3 L T := rfl
theorem vt_all (w : Nat) (L T : List cC) : ((v_turn w L T).1 = 0 ∨ (v_turn w L T).1 = 1 ∨ (v_turn w L T).1 = -1) ∧ (v_turn w L T).2.1.length ≤ L.length ∧ (T.length ≤ 200 → (v_turn w L T).2.2.length ≤ 200) ∧ ((v_turn w L T).1 = 1 → mu_L (v_turn w L T).2.1 < mu_L L) ∧ (g_cl L → g_cl (v_turn w L T).2.1) := by
  have nn : ¬ (0 : Int32) = 1 := by decide
  have mm : ¬ (-1 : Int32) = 1 := by decide
  match w with
  | 0 =>
    cases hq : p_unit L with
    | none => rw [vt_0n hq]; exact ⟨Or.inl rfl, Nat.le_refl _, id, fun z => absurd z nn, id⟩
    | some k =>
      by_cases hT : T.length < 200
      · obtain ⟨h1, h2, h3⟩ := q_up_some hq
        rw [vt_0s hq hT]
        refine ⟨Or.inr (Or.inl rfl), Nat.le_trans q_tfa_len (List.length_filter_le _ _), fun _ => ?_, fun _ => ?_, fun hg => g_cl_tfa (g_cl_filter hg)⟩
        · show (T ++ [(q_set L k, q_set L k)]).length ≤ 200
          rw [List.length_append]
          show T.length + 1 ≤ 200
          omega
        · exact Nat.lt_of_le_of_lt mu_tfa (mu_filter_lt (q_get_set (by omega)) (sing_ne h3))
      · rw [vt_0f hq hT]; exact ⟨Or.inr (Or.inr rfl), Nat.le_refl _, id, fun z => absurd z mm, id⟩
  | 1 =>
    cases hq : q_sub L with
    | none => rw [vt_1n hq]; exact ⟨Or.inl rfl, Nat.le_refl _, id, fun z => absurd z nn, id⟩
    | some k =>
      obtain ⟨h1, h2, h3⟩ := q_up_some hq
      rw [vt_1s hq]
      exact ⟨Or.inr (Or.inl rfl), er_len, id, fun _ => mu_erase (by omega), fun hg => g_cl_erase hg⟩
  | 2 =>
    cases hq : q_str L with
    | none => rw [vt_2n hq]; exact ⟨Or.inl rfl, Nat.le_refl _, id, fun z => absurd z nn, id⟩
    | some k =>
      obtain ⟨h1, d, h2, h3, h4⟩ := str_d hq
      rw [vt_2s hq h2]
      exact ⟨Or.inr (Or.inl rfl), q_take_len, id, fun _ => mu_take_lt h1 (sl_and h4), fun hg => g_cl_take hg h1⟩
  | w + 3 =>
    rw [v_turn_3]
    cases hq : q_blk L with
    | none => rw [vt_3n hq]; exact ⟨Or.inl rfl, Nat.le_refl _, id, fun z => absurd z nn, id⟩
    | some k =>
      by_cases hT : T.length < 200
      · obtain ⟨h1, h2, h3⟩ := q_up_some hq
        rw [vt_3s hq hT]
        refine ⟨Or.inr (Or.inl rfl), er_len, fun _ => ?_, fun _ => mu_erase (by omega), fun hg => g_cl_erase hg⟩
        show (T ++ [(q_set L k, q_bl L (q_set L k))]).length ≤ 200
        rw [List.length_append]
        show T.length + 1 ≤ 200
        omega
      · rw [vt_3f hq hT]; exact ⟨Or.inr (Or.inr rfl), Nat.le_refl _, id, fun z => absurd z mm, id⟩
theorem vs_1 {w f n : Nat} {L T : List cC} (h : (v_turn w L T).1 = 1) : v_steps w (f + 1) n L T = v_steps w f (n + 1) (v_turn w L T).2.1 (v_turn w L T).2.2 := by
  show (if (v_turn w L T).1 = 1 then v_steps w f (n + 1) (v_turn w L T).2.1 (v_turn w L T).2.2 else ((v_turn w L T).1, n, (v_turn w L T).2.1, (v_turn w L T).2.2)) = _
  rw [if_pos h]
theorem vs_0 {w f n : Nat} {L T : List cC} (h : ¬ (v_turn w L T).1 = 1) : v_steps w (f + 1) n L T = ((v_turn w L T).1, n, (v_turn w L T).2.1, (v_turn w L T).2.2) := by
  show (if (v_turn w L T).1 = 1 then v_steps w f (n + 1) (v_turn w L T).2.1 (v_turn w L T).2.2 else ((v_turn w L T).1, n, (v_turn w L T).2.1, (v_turn w L T).2.2)) = _
  rw [if_neg h]
theorem vs_room {w f n : Nat} {L T : List cC} (hf : 0 < f) (h : (v_steps w f n L T).1 ≠ -1) : (v_turn w L T).1 ≠ -1 := by
  obtain ⟨g, rfl⟩ : ∃ g, f = g + 1 := ⟨f - 1, by omega⟩
  intro q
  rw [vs_0 (by rw [q]; decide)] at h
  exact h q
theorem vr_0 {L T : List cC} (h : (v_turn 0 L T).1 ≠ -1) (hu : p_unit L ≠ none) : T.length < 200 := by
  refine Classical.byContradiction fun hn => ?_
  obtain ⟨k, hk⟩ := some_of_ne hu
  rw [vt_0f hk hn] at h
  exact h rfl
theorem vr_3 {L T : List cC} (h : (v_turn 3 L T).1 ≠ -1) (hu : q_blk L ≠ none) : T.length < 200 := by
  refine Classical.byContradiction fun hn => ?_
  obtain ⟨k, hk⟩ := some_of_ne hu
  rw [vt_3f hk hn] at h
  exact h rfl
theorem x_same.TT {S u : XS} (h : x_same S u) : vXT u = vXT S := by
  unfold x_same at h
  rw [h]
theorem vXT_len (S : XS) : (vXT S).length = xh S := cl_of_len _ _ _
theorem x_samT.ok {S u : XS} (h : x_samT S u) (hg : xg S ≤ 100) (h1 : (vXL u).length ≤ 40) (h2 : (vXT u).length ≤ 200) : okX u := by
  rw [vXL_len] at h1
  rw [vXT_len] at h2
  unfold x_samT at h
  exact ⟨h1, h2, by rw [h]; exact hg⟩
theorem vt_d1 {r : Int32} {L M T : List cC} (h : (r, M) = (match q_sub L with | none => ((0 : Int32), L) | some c => (1, L.eraseIdx c))) : (r, M, T) = v_turn 1 L T := by
  cases hq : q_sub L with
  | none => rw [hq] at h; rw [vt_1n hq]; cases h; rfl
  | some k => rw [hq] at h; rw [vt_1s hq]; cases h; rfl
theorem vt_d2 {r : Int32} {L M T : List cC} (h : (r, M) = (match q_str L with | none => ((0 : Int32), L) | some c => q_stN L c)) : (r, M, T) = v_turn 2 L T := by
  cases hq : q_str L with
  | none => rw [hq] at h; rw [vt_2n hq]; cases h; rfl
  | some k =>
    obtain ⟨h1, d, h2, h3, h4⟩ := str_d hq
    rw [hq] at h
    have h' : (r, M) = q_stN L k := h
    unfold q_stN at h'
    rw [h2] at h'
    rw [vt_2s hq h2]
    cases h'
    rfl
theorem r01 {r : Int32} {M N : List cC} {z : Int32 × List cC × List cC} (h : (r, M, N) = z) (h1 : z.1 = 0 ∨ z.1 = 1 ∨ z.1 = -1) (h2 : z.1 ≠ -1) : narrow .boolean (.int r) = .int r := by
  rw [← h] at h1 h2
  rcases h1 with h1 | h1 | h1
  · have h3 : r = 0 := h1
    rw [h3]; rfl
  · have h3 : r = 1 := h1
    rw [h3]; rfl
  · exact absurd h1 h2
