/-! The reference's small functions, against the class's. -/
def m_bit (x : Int32) : Int32 := if 0 < x then 1 <<< (x &&& 31) else 1 <<< ((16 - x) &&& 31)
theorem m_bit_pos : ∀ v, v < 11 → 1 ≤ v → m_bit (nI v) = k_pos (nI v) := by decide +kernel
theorem m_bit_neg : ∀ v, v < 11 → 1 ≤ v → m_bit (-(nI v)) = k_neg (nI v) := by decide +kernel
theorem bt_2046 : ∀ i, i < 32 → bt 2046 i = decide (1 ≤ i ∧ i ≤ 10) := by decide +kernel
theorem bt_sshr16 (x : Int32) {i : Nat} (hi : i < 32) : bt (x >>> ((16 : Int32) &&& 31)) i = if 16 + i < 32 then bt x (16 + i) else bt x 31 := b_sshr 16 (by omega) x hi
def m_taut (x : Int32) : Bool := decide (x &&& (x >>> ((16 : Int32) &&& 31)) &&& 2046 ≠ 0)
theorem m_taut_eq {x : Int32} (h : k_ok x) : m_taut x = k_taut x := by
  unfold m_taut k_taut
  apply decide_eq_decide.mpr
  rw [bt_ne, bt_ne]
  constructor
  · intro ⟨i, hi, hb⟩
    refine ⟨i, hi, ?_⟩
    rw [b_and, b_and, bt_sshr16 x hi, bt_2046 i hi, Bool.and_eq_true_iff, Bool.and_eq_true_iff, decide_eq_true_iff] at hb
    rw [if_pos (by omega)] at hb
    rw [b_and, bt_ush16, hb.1.1, hb.1.2]
    rfl
  · intro ⟨i, hi, hb⟩
    refine ⟨i, hi, ?_⟩
    rw [b_and, bt_ush16, Bool.and_eq_true_iff] at hb
    have h1 := h _ hb.2
    rw [b_and, b_and, bt_sshr16 x hi, bt_2046 i hi, if_pos (by omega), hb.1, hb.2, decide_eq_true (by omega)]
    rfl
def k_okv (a : Int32) : Prop := ∀ i, bt a i = true → 1 ≤ i ∧ i ≤ 10
def m_true (x a : Int32) : Bool := decide (x &&& a &&& 2046 ≠ 0) || decide ((x >>> ((16 : Int32) &&& 31)) &&& k_not a &&& 2046 ≠ 0)
theorem bt_tl (a : Int32) {i : Nat} (hi : i < 32) : bt (k_tl a) i = (bt a i || (decide (16 ≤ i) && (decide (1 ≤ i - 16 ∧ i - 16 ≤ 10) && !bt a (i - 16)))) := by
  unfold k_tl
  rw [b_or, b_shl16 _ hi, b_and, bt_2046 _ (by omega), bt_not _ (by omega)]
theorem m_true_eq {x a : Int32} (h : k_ok x) (ha : k_okv a) : m_true x a = decide (x &&& k_tl a ≠ 0) := by
  unfold m_true
  rw [← Bool.decide_or]
  apply decide_eq_decide.mpr
  rw [bt_ne, bt_ne, bt_ne]
  constructor
  · intro hx
    rcases hx with ⟨i, hi, hb⟩ | ⟨i, hi, hb⟩
    · rw [b_and, b_and, Bool.and_eq_true_iff, Bool.and_eq_true_iff] at hb
      exact ⟨i, hi, by rw [b_and, bt_tl a hi, hb.1.1, hb.1.2]; rfl⟩
    · rw [b_and, b_and, bt_sshr16 x hi, bt_not a hi, bt_2046 i hi, Bool.and_eq_true_iff, Bool.and_eq_true_iff, decide_eq_true_iff] at hb
      rw [if_pos (by omega)] at hb
      refine ⟨16 + i, by omega, ?_⟩
      rw [b_and, bt_tl a (by omega), hb.1.1, show 16 + i - 16 = i by omega, hb.1.2, decide_eq_true (show 16 ≤ 16 + i by omega), decide_eq_true hb.2]
      simp
  · intro ⟨i, hi, hb⟩
    rw [b_and, bt_tl a hi, Bool.and_eq_true_iff, Bool.or_eq_true_iff, Bool.and_eq_true_iff, Bool.and_eq_true_iff, decide_eq_true_iff, decide_eq_true_iff] at hb
    obtain ⟨h1, h2 | ⟨h2, h3, h4⟩⟩ := hb
    · have := ha i h2
      exact Or.inl ⟨i, hi, by rw [b_and, b_and, h1, h2, bt_2046 i hi, decide_eq_true (by omega)]; rfl⟩
    · refine Or.inr ⟨i - 16, by omega, ?_⟩
      rw [b_and, b_and, bt_sshr16 x (by omega), if_pos (by omega), show 16 + (i - 16) = i by omega, h1, bt_not a (by omega), h4, bt_2046 _ (by omega), decide_eq_true h3]
      rfl
theorem bt_mine {c : Int32} {v : Nat} (hv : v < 11) {i : Nat} (hi : i < 32) : bt (k_con (c &&& k_both (nI v))) i = ((decide (i = v + 16) && bt c v) || (decide (i = v) && bt c (v + 16))) := by
  rw [bt_con _ hi]
  have e1 : (decide (16 ≤ i) && bt (c &&& k_both (nI v)) (i - 16)) = (decide (i = v + 16) && bt c v) := by
    by_cases h : i = v + 16
    · subst h
      rw [bt_and_both hv (by omega), Nat.add_sub_cancel]
      simp
    · rw [bt_and_both hv (by omega), decide_eq_false h]
      by_cases h16 : 16 ≤ i
      · rw [decide_eq_false (show ¬ i - 16 = v by omega), decide_eq_false (show ¬ i - 16 = v + 16 by omega)]
        simp
      · simp [h16]
  have e2 : bt (c &&& k_both (nI v)) (16 + i) = (decide (i = v) && bt c (v + 16)) := by
    by_cases h32 : 16 + i < 32
    · rw [bt_and_both hv h32]
      by_cases h : i = v
      · subst h
        rw [Nat.add_comm 16 i]
        simp
      · rw [decide_eq_false h, decide_eq_false (show ¬ 16 + i = v by omega), decide_eq_false (show ¬ 16 + i = v + 16 by omega)]
        simp
    · rw [b_big (by omega), decide_eq_false (show ¬ i = v by omega)]
      rfl
  rw [e1, e2]
theorem mine_one {c : Int32} (nc : k_nt c) {v : Nat} (hv : v < 11) (h : c &&& k_both (nI v) ≠ 0) : (bt c v = true ∧ bt c (v + 16) = false) ∨ (bt c v = false ∧ bt c (v + 16) = true) := by
  have n1 := nc v
  rw [Nat.add_comm] at n1
  rw [both_ne hv] at h
  cases c1 : bt c v <;> cases c2 : bt c (v + 16)
  · rw [c1, c2] at h; simp at h
  · exact Or.inr ⟨rfl, rfl⟩
  · exact Or.inl ⟨rfl, rfl⟩
  · exact (n1 c1 c2).elim
theorem mine_both {c : Int32} (nc : k_nt c) {v : Nat} (hv : v < 11) (h : c &&& k_both (nI v) ≠ 0) : (c &&& k_both (nI v)) ||| k_con (c &&& k_both (nI v)) = k_both (nI v) := by
  apply b_ext
  intro i hi
  rw [b_or, bt_mine hv hi, bt_and_both hv hi, bt_both hv hi]
  rcases mine_one nc hv h with ⟨c1, c2⟩ | ⟨c1, c2⟩
  · by_cases e1 : i = v
    · subst e1
      simp [c1]
    · by_cases e2 : i = v + 16
      · subst e2
        simp [c1, c2]
      · simp [e1, e2]
  · by_cases e1 : i = v
    · subst e1
      simp [c1, c2]
    · by_cases e2 : i = v + 16
      · subst e2
        simp [c1, c2]
      · simp [e1, e2]
theorem mine_con {c : Int32} (nc : k_nt c) {v : Nat} (hv : v < 11) (h : c &&& k_both (nI v) ≠ 0) (x : Int32) : x &&& k_both (nI v) &&& k_not (c &&& k_both (nI v)) = x &&& k_con (c &&& k_both (nI v)) := by
  apply b_ext
  intro i hi
  rw [b_and, b_and, b_and, bt_not _ hi, bt_mine hv hi, bt_and_both hv hi, bt_both hv hi]
  rcases mine_one nc hv h with ⟨c1, c2⟩ | ⟨c1, c2⟩
  · by_cases e1 : i = v
    · subst e1
      simp [c1, c2]
    · by_cases e2 : i = v + 16
      · subst e2
        simp [c1, c2]
      · simp [e1, e2]
  · by_cases e1 : i = v
    · subst e1
      simp [c1, c2]
    · by_cases e2 : i = v + 16
      · subst e2
        simp [c1, c2]
      · simp [e1, e2]
