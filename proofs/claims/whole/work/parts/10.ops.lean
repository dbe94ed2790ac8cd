/-! One turn of a step, and turns until there is nothing more; the measure that falls. -/
def p_unit (L : List cC) : Option Nat := q_up (fun k => k_sing (q_set L k)) L.length 0
/-- a turn: 0 nothing to do, 1 done, -1 the stack is full -/
def v_turn (w : Nat) (L T : List cC) : Int32 × List cC × List cC := match w with
  | 0 => match p_unit L with
    | none => (0, L, T)
    | some k => if T.length < 200 then (1, q_tfa (k_con (q_set L k)) 40 (L.filter (fun c => (c.1 &&& q_set L k) == 0)), T ++ [(q_set L k, q_set L k)]) else (-1, L, T)
  | 1 => match q_sub L with
    | none => (0, L, T)
    | some c => (1, L.eraseIdx c, T)
  | 2 => match q_str L with
    | none => (0, L, T)
    | some c => match q_st1 L c with
      | none => (0, L, T)
      | some d => (1, q_take L c (k_sl (q_set L c) (q_set L d)), T)
  | _ => match q_blk L with
    | none => (0, L, T)
    | some c => if T.length < 200 then (1, L.eraseIdx c, T ++ [(q_set L c, q_bl L (q_set L c))]) else (-1, L, T)
def v_steps (w : Nat) : Nat → Nat → List cC → List cC → Int32 × Nat × List cC × List cC
  | 0, n, L, T => (0, n, L, T)
  | f + 1, n, L, T => match v_turn w L T with
    | (h, L1, T1) => if h = 1 then v_steps w f (n + 1) L1 T1 else (h, n, L1, T1)
-- the measure
def mu_L (L : List cC) : Nat := (L.map (fun c => 1 + k_pc c.1)).sum
theorem q_ct_mono {p q : Nat → Bool} : ∀ (f k a b : Nat), a ≤ b → (∀ i, k ≤ i → i < k + f → p i = true → q i = true) → q_ct p f k a ≤ q_ct q f k b
  | 0, _, _, _, h, _ => h
  | f + 1, k, a, b, h, hp => by
    show q_ct p f (k + 1) (if p k then a + 1 else a) ≤ q_ct q f (k + 1) (if q k then b + 1 else b)
    refine q_ct_mono f (k + 1) _ _ ?_ (fun i h1 h2 => hp i (by omega) (by omega))
    by_cases h1 : p k = true
    · rw [if_pos h1, if_pos (hp k (Nat.le_refl _) (by omega) h1)]
      omega
    · rw [if_neg h1]
      split <;> omega
theorem q_ct_lt {p q : Nat → Bool} : ∀ (f k a b : Nat), a ≤ b → (∀ i, k ≤ i → i < k + f → p i = true → q i = true) → (∃ i, k ≤ i ∧ i < k + f ∧ p i = false ∧ q i = true) → q_ct p f k a < q_ct q f k b
  | 0, _, _, _, _, _, ⟨i, h1, h2, _⟩ => by omega
  | f + 1, k, a, b, h, hp, ⟨i, h1, h2, h3, h4⟩ => by
    show q_ct p f (k + 1) (if p k then a + 1 else a) < q_ct q f (k + 1) (if q k then b + 1 else b)
    by_cases hi : i = k
    · subst hi
      rw [if_neg (by rw [h3]; exact Bool.false_ne_true), if_pos h4, q_ct_acc p, q_ct_acc q]
      have := q_ct_mono (p := p) (q := q) f (i + 1) 0 0 (Nat.le_refl _) (fun j g1 g2 => hp j (by omega) (by omega))
      omega
    · refine q_ct_lt f (k + 1) _ _ ?_ (fun j g1 g2 => hp j (by omega) (by omega)) ⟨i, by omega, by omega, h3, h4⟩
      by_cases g : p k = true
      · rw [if_pos g, if_pos (hp k (Nat.le_refl _) (by omega) g)]
        omega
      · rw [if_neg g]
        split <;> omega
theorem k_pc_and (x b : Int32) : k_pc (x &&& k_not b) ≤ k_pc x := by
  unfold k_pc
  refine q_ct_mono 32 0 0 0 (Nat.le_refl _) (fun i _ _ h => ?_)
  rw [b_and, Bool.and_eq_true_iff] at h
  exact h.1
theorem k_pc_lt {x b : Int32} (h : x &&& b ≠ 0) : k_pc (x &&& k_not b) < k_pc x := by
  unfold k_pc
  obtain ⟨i, hi, hb⟩ := bt_ne.mp h
  rw [b_and, Bool.and_eq_true_iff] at hb
  refine q_ct_lt 32 0 0 0 (Nat.le_refl _) (fun i _ _ h => ?_) ⟨i, Nat.zero_le _, by omega, ?_, hb.1⟩
  · rw [b_and, Bool.and_eq_true_iff] at h
    exact h.1
  · rw [b_and, bt_not _ hi, hb.2]
    simp
theorem mu_set : ∀ {L : List cC} {k : Nat} {c : cC}, k < L.length → mu_L (L.set k c) + (1 + k_pc (q_set L k)) = mu_L L + (1 + k_pc c.1)
  | [], k, c, h => by cases h
  | a :: L, 0, c, _ => by
    show (1 + k_pc c.1) + mu_L L + (1 + k_pc a.1) = (1 + k_pc a.1) + mu_L L + (1 + k_pc c.1)
    omega
  | a :: L, k + 1, c, h => by
    have := mu_set (L := L) (k := k) (c := c) (by simpa using h)
    show (1 + k_pc a.1) + mu_L (L.set k c) + (1 + k_pc (q_set L k)) = (1 + k_pc a.1) + mu_L L + (1 + k_pc c.1)
    omega
theorem mu_erase : ∀ {L : List cC} {k : Nat}, k < L.length → mu_L (L.eraseIdx k) < mu_L L
  | [], k, h => by cases h
  | a :: L, 0, _ => by
    show mu_L L < (1 + k_pc a.1) + mu_L L
    omega
  | a :: L, k + 1, h => by
    have := mu_erase (L := L) (k := k) (by simpa using h)
    show (1 + k_pc a.1) + mu_L (L.eraseIdx k) < (1 + k_pc a.1) + mu_L L
    omega
theorem mu_erase_le {L : List cC} {k : Nat} : mu_L (L.eraseIdx k) ≤ mu_L L := by
  by_cases h : k < L.length
  · exact Nat.le_of_lt (mu_erase h)
  · rw [List.eraseIdx_of_length_le (by omega)]
    exact Nat.le_refl _
theorem mu_filter : ∀ {L : List cC} {p : cC → Bool}, mu_L (L.filter p) ≤ mu_L L
  | [], _ => Nat.le_refl _
  | a :: L, p => by
    have := mu_filter (L := L) (p := p)
    rw [List.filter_cons]
    split
    · show (1 + k_pc a.1) + mu_L (L.filter p) ≤ (1 + k_pc a.1) + mu_L L
      omega
    · show mu_L (L.filter p) ≤ (1 + k_pc a.1) + mu_L L
      omega
theorem mu_filter_lt : ∀ {L : List cC} {p : cC → Bool} {k : Nat} {c : cC}, L[k]? = some c → p c = false → mu_L (L.filter p) < mu_L L
  | [], _, k, c, h, _ => by simp at h
  | a :: L, p, 0, c, h, hp => by
    rw [List.getElem?_cons_zero] at h
    cases h
    have := mu_filter (L := L) (p := p)
    rw [List.filter_cons, if_neg (by rw [hp]; exact Bool.false_ne_true)]
    show mu_L (L.filter p) < (1 + k_pc a.1) + mu_L L
    omega
  | a :: L, p, k + 1, c, h, hp => by
    rw [List.getElem?_cons_succ] at h
    have := mu_filter_lt h hp
    rw [List.filter_cons]
    split
    · show (1 + k_pc a.1) + mu_L (L.filter p) < (1 + k_pc a.1) + mu_L L
      omega
    · show mu_L (L.filter p) < (1 + k_pc a.1) + mu_L L
      omega
theorem mu_take_le {L : List cC} {k : Nat} {b : Int32} (h : k < L.length) : mu_L (q_take L k b) ≤ mu_L L := by
  have e := mu_set (L := L) (k := k) (c := (q_set L k &&& k_not b, q_num L k)) h
  have e2 := k_pc_and (q_set L k) b
  unfold q_take
  cases hq : q_find L (q_set L k &&& k_not b) with
  | none =>
    dsimp only at e ⊢
    omega
  | some o =>
    have := mu_erase_le (L := L.set k (q_set L k &&& k_not b, q_num L k)) (k := max k o)
    dsimp only at e ⊢
    omega
theorem mu_take_lt {L : List cC} {k : Nat} {b : Int32} (h : k < L.length) (hb : q_set L k &&& b ≠ 0) : mu_L (q_take L k b) < mu_L L := by
  have e := mu_set (L := L) (k := k) (c := (q_set L k &&& k_not b, q_num L k)) h
  have e2 := k_pc_lt hb
  unfold q_take
  cases hq : q_find L (q_set L k &&& k_not b) with
  | none =>
    dsimp only at e ⊢
    omega
  | some o =>
    have := mu_erase_le (L := L.set k (q_set L k &&& k_not b, q_num L k)) (k := max k o)
    dsimp only at e ⊢
    omega
theorem mu_tfa {b : Int32} : ∀ {f : Nat} {L : List cC}, mu_L (q_tfa b f L) ≤ mu_L L
  | 0, _ => Nat.le_refl _
  | f + 1, L => by
    show mu_L (match q_frst L b with
      | none => L
      | some k => q_tfa b f (q_take L k b)) ≤ mu_L L
    cases hq : q_frst L b with
    | none => exact Nat.le_refl _
    | some k => exact Nat.le_trans mu_tfa (mu_take_le (q_frst_lt hq))
theorem mu_le : ∀ (L : List cC), mu_L L ≤ 33 * L.length
  | [] => Nat.le_refl _
  | a :: L => by
    have := mu_le L
    have := k_pc_le a.1
    show (1 + k_pc a.1) + mu_L L ≤ 33 * (L.length + 1)
    omega
