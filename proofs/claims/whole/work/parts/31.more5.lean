/-! Rows for the public methods. -/
theorem r_one {r : Int32} {M N : List cC} {z : Int32 × List cC × List cC} (h : (r, M, N) = z) (h1 : z.1 = 0 ∨ z.1 = 1 ∨ z.1 = -1) (h2 : z.1 ≠ -1) (h3 : ¬ r = 0) : z.1 = 1 := by
  rw [← h] at h1 h2 ⊢
  rcases h1 with h1 | h1 | h1
  · exact absurd h1 h3
  · exact h1
  · exact absurd h1 h2
theorem isV_nI : ∀ v, v < 11 → 1 ≤ v → k_isV (nI v) = true := by decide +kernel
def k_lit (x : Int32) : Int32 := if x ≤ 0 then k_neg (-x) else k_pos x
def k_mt (t x : Int32) : Int32 := (t ||| (x &&& 2046)) &&& k_not (k_ush x 16)
def q_ext (T : List cC) : Nat → Int32 → Nat → Nat × Int32
  | 0, t, a => (a, t)
  | j + 1, t, a => if q_set T j &&& k_tl t = 0 then q_ext T j (k_mt t (q_num T j)) (a + 1) else q_ext T j t a
theorem ext_t {T : List cC} {j a : Nat} {t : Int32} (h : q_set T j &&& k_tl t = 0) : q_ext T (j + 1) t a = q_ext T j (k_mt t (q_num T j)) (a + 1) := by
  show (if q_set T j &&& k_tl t = 0 then q_ext T j (k_mt t (q_num T j)) (a + 1) else q_ext T j t a) = _
  rw [if_pos h]
theorem ext_f {T : List cC} {j a : Nat} {t : Int32} (h : ¬ q_set T j &&& k_tl t = 0) : q_ext T (j + 1) t a = q_ext T j t a := by
  show (if q_set T j &&& k_tl t = 0 then q_ext T j (k_mt t (q_num T j)) (a + 1) else q_ext T j t a) = _
  rw [if_neg h]
theorem nP_lt0 {j : Nat} (hj : j < 2 ^ 31) : nP j < 0 ↔ j = 0 := by
  cases j with
  | zero => exact ⟨fun _ => rfl, fun _ => by rw [nP_0]; decide⟩
  | succ k =>
    rw [nP_s]
    exact ⟨fun q => absurd q (nI_pos (by omega)), fun q => by omega⟩
