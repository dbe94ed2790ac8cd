/-! How many bits a set of literals has: Integer.bitCount's way against the plain count. -/
def k_bc (i : Int32) : Int32 :=
  let a := i - (k_ush i 1 &&& 1431655765)
  let b := (a &&& 858993459) + (k_ush a 2 &&& 858993459)
  let c := (b + k_ush b 4) &&& 252645135
  let d := c + k_ush c 8
  let f := d + k_ush d 16
  f &&& 63
theorem an_split (k : Nat) {lo m1 : Nat} (hi m2 : Nat) (h1 : lo < 2 ^ k) (h2 : m1 < 2 ^ k) : (2 ^ k * hi + lo) &&& (2 ^ k * m2 + m1) = 2 ^ k * (hi &&& m2) + (lo &&& m1) := by
  have h3 : lo &&& m1 < 2 ^ k := Nat.and_lt_two_pow _ h2
  apply Nat.eq_of_testBit_eq
  intro i
  rw [Nat.testBit_and, Nat.testBit_two_pow_mul_add _ h1, Nat.testBit_two_pow_mul_add _ h2, Nat.testBit_two_pow_mul_add _ h3]
  by_cases h : i < k
  · rw [if_pos h, if_pos h, if_pos h, Nat.testBit_and]
  · rw [if_neg h, if_neg h, if_neg h, Nat.testBit_and]
theorem an_low (k : Nat) {lo m1 : Nat} (hi : Nat) (h1 : lo < 2 ^ k) (h2 : m1 < 2 ^ k) : (2 ^ k * hi + lo) &&& m1 = lo &&& m1 := by
  have h := an_split k hi 0 h1 h2
  rw [Nat.mul_zero, Nat.zero_add, Nat.and_zero, Nat.mul_zero, Nat.zero_add] at h
  exact h
def ph1 (z : Nat) : Nat := z - (z / 2 &&& 21845)
def ph2 (z : Nat) : Nat := (ph1 z &&& 13107) + (ph1 z / 4 &&& 13107)
def ph3 (z : Nat) : Nat := (ph2 z + ph2 z / 16) &&& 3855
theorem ph_facts : ∀ z, z < 2048 → (z / 2 &&& 21845) ≤ z ∧ ph1 z < 2048 ∧ ph2 z < 2048 ∧ ph2 z + ph2 z / 16 < 4096 ∧ ph3 z % 256 ≤ 8 ∧ ph3 z / 256 ≤ 8 ∧ ph3 z % 256 + ph3 z / 256 = q_ct (fun i => z.testBit i) 16 0 0 := by decide +kernel
theorem bc_end {A B p0 p1 p2 p3 : Nat} (hA : A = 256 * p3 + p2) (hB : B = 256 * p1 + p0) (h0 : p0 ≤ 8) (h1 : p1 ≤ 8) (h2 : p2 ≤ 8) (h3 : p3 ≤ 8) : ((2 ^ 16 * A + B) + (2 ^ 16 * A + B) / 256 + ((2 ^ 16 * A + B) + (2 ^ 16 * A + B) / 256) / 65536) % 2 ^ 6 = (p0 + p1) + (p2 + p3) := by
  have e1 : (2 ^ 16 * A + B) / 256 = 65536 * p3 + 256 * p2 + p1 := by omega
  have e2 : ((2 ^ 16 * A + B) + (2 ^ 16 * A + B) / 256) / 65536 = 256 * p3 + p2 + p3 := by
    rw [e1]
    omega
  rw [e2, e1]
  omega
theorem bc_halves (x : Int32) (lo hi : Nat) (hlo : lo < 2048) (hhi : hi < 2048) (hX : x.toBitVec.toNat = 2 ^ 16 * hi + lo) : k_bc x = nI (q_ct (fun i => lo.testBit i) 16 0 0 + q_ct (fun i => hi.testBit i) 16 0 0) := by
  obtain ⟨l1, l2, l3, l4, l5, l6, l7⟩ := ph_facts lo hlo
  obtain ⟨g1, g2, g3, g4, g5, g6, g7⟩ := ph_facts hi hhi
  have u1 : ∀ y : Int32, (k_ush y 1).toBitVec.toNat = y.toBitVec.toNat / 2 ^ 1 := fun y => pk_ushr y 1 1 (by decide +kernel)
  have u2 : ∀ y : Int32, (k_ush y 2).toBitVec.toNat = y.toBitVec.toNat / 2 ^ 2 := fun y => pk_ushr y 2 2 (by decide +kernel)
  have u4 : ∀ y : Int32, (k_ush y 4).toBitVec.toNat = y.toBitVec.toNat / 2 ^ 4 := fun y => pk_ushr y 4 4 (by decide +kernel)
  have u8 : ∀ y : Int32, (k_ush y 8).toBitVec.toNat = y.toBitVec.toNat / 2 ^ 8 := fun y => pk_ushr y 8 8 (by decide +kernel)
  have u16 : ∀ y : Int32, (k_ush y 16).toBitVec.toNat = y.toBitVec.toNat / 2 ^ 16 := fun y => pk_ushr y 16 16 (by decide +kernel)
  have an : ∀ (y z : Int32), (y &&& z).toBitVec.toNat = y.toBitVec.toNat &&& z.toBitVec.toNat := fun y z => by rw [Int32.toBitVec_and, BitVec.toNat_and]
  have ad : ∀ (y z : Int32), y.toBitVec.toNat + z.toBitVec.toNat < 2 ^ 32 → (y + z).toBitVec.toNat = y.toBitVec.toNat + z.toBitVec.toNat := fun y z h => by rw [Int32.toBitVec_add, BitVec.toNat_add, Nat.mod_eq_of_lt h]
  have sb : ∀ (y z : Int32), z.toBitVec.toNat ≤ y.toBitVec.toNat → (y - z).toBitVec.toNat = y.toBitVec.toNat - z.toBitVec.toNat := fun y z h => by rw [Int32.toBitVec_sub, BitVec.toNat_sub_of_le h]
  unfold k_bc
  -- a
  obtain ⟨a, ha⟩ : ∃ a, a = x - (k_ush x 1 &&& 1431655765) := ⟨_, rfl⟩
  have e1 : (k_ush x 1 &&& 1431655765).toBitVec.toNat = 2 ^ 16 * (hi / 2 &&& 21845) + (lo / 2 &&& 21845) := by
    rw [an, u1, hX, show (1431655765 : Int32).toBitVec.toNat = 2 ^ 16 * 21845 + 21845 by decide +kernel]
    rw [show (2 ^ 16 * hi + lo) / 2 ^ 1 = 2 ^ 16 * (hi / 2) + (2 ^ 15 * (hi % 2) + lo / 2) by omega]
    rw [an_split 16 _ _ (by omega) (by omega), an_low 15 _ (by omega) (by omega)]
  have ea : a.toBitVec.toNat = 2 ^ 16 * ph1 hi + ph1 lo := by
    rw [ha, sb _ _ (by rw [e1, hX]; omega), e1, hX]
    unfold ph1
    omega
  -- b
  obtain ⟨b, hb⟩ : ∃ b, b = (a &&& 858993459) + (k_ush a 2 &&& 858993459) := ⟨_, rfl⟩
  have m3 : (858993459 : Int32).toBitVec.toNat = 2 ^ 16 * 13107 + 13107 := by decide +kernel
  have e2 : (a &&& 858993459).toBitVec.toNat = 2 ^ 16 * (ph1 hi &&& 13107) + (ph1 lo &&& 13107) := by
    rw [an, ea, m3, an_split 16 _ _ (by omega) (by omega)]
  have e3 : (k_ush a 2 &&& 858993459).toBitVec.toNat = 2 ^ 16 * (ph1 hi / 4 &&& 13107) + (ph1 lo / 4 &&& 13107) := by
    rw [an, u2, ea, m3]
    rw [show (2 ^ 16 * ph1 hi + ph1 lo) / 2 ^ 2 = 2 ^ 16 * (ph1 hi / 4) + (2 ^ 14 * (ph1 hi % 4) + ph1 lo / 4) by omega]
    rw [an_split 16 _ _ (by omega) (by omega), an_low 14 _ (by omega) (by omega)]
  have f1 : (ph1 hi &&& 13107) + (ph1 hi / 4 &&& 13107) = ph2 hi := rfl
  have f2 : (ph1 lo &&& 13107) + (ph1 lo / 4 &&& 13107) = ph2 lo := rfl
  have eb : b.toBitVec.toNat = 2 ^ 16 * ph2 hi + ph2 lo := by
    rw [hb, ad _ _ (by rw [e2, e3]; omega), e2, e3]
    omega
  -- c
  obtain ⟨c, hc⟩ : ∃ c, c = (b + k_ush b 4) &&& 252645135 := ⟨_, rfl⟩
  have e4 : (b + k_ush b 4).toBitVec.toNat = 2 ^ 16 * (ph2 hi + ph2 hi / 16) + (2 ^ 12 * (ph2 hi % 16) + (ph2 lo + ph2 lo / 16)) := by
    rw [ad _ _ (by rw [u4, eb]; omega), u4, eb]
    omega
  have ec : c.toBitVec.toNat = 2 ^ 16 * ph3 hi + ph3 lo := by
    rw [hc, an, e4, show (252645135 : Int32).toBitVec.toNat = 2 ^ 16 * 3855 + 3855 by decide +kernel]
    rw [an_split 16 _ _ (by omega) (by omega), an_low 12 _ (by omega) (by omega)]
    rfl
  -- d, f
  obtain ⟨d, hd⟩ : ∃ d, d = c + k_ush c 8 := ⟨_, rfl⟩
  have ed : d.toBitVec.toNat = (2 ^ 16 * ph3 hi + ph3 lo) + (2 ^ 16 * ph3 hi + ph3 lo) / 256 := by
    rw [hd, ad _ _ (by rw [u8, ec]; omega), u8, ec]
  obtain ⟨f, hf⟩ : ∃ f, f = d + k_ush d 16 := ⟨_, rfl⟩
  have ef : f.toBitVec.toNat = d.toBitVec.toNat + d.toBitVec.toNat / 65536 := by
    rw [hf, ad _ _ (by rw [u16, ed]; omega), u16]
  show (let a := x - (k_ush x 1 &&& 1431655765); let b := (a &&& 858993459) + (k_ush a 2 &&& 858993459); let c := (b + k_ush b 4) &&& 252645135; let d := c + k_ush c 8; let f := d + k_ush d 16; f &&& 63) = _
  dsimp only
  rw [← ha, ← hb, ← hc, ← hd, ← hf]
  apply Int32.toBitVec_inj.mp
  apply BitVec.eq_of_toNat_eq
  have hm : (63 : Int32).toBitVec.toNat = 2 ^ 6 - 1 := by decide +kernel
  rw [an, hm, Nat.and_two_pow_sub_one_eq_mod, ef, ed, ← l7, ← g7, pk_tn (by omega)]
  exact bc_end (by omega) (by omega) l5 l6 g5 g6
theorem q_ct_app (p : Nat → Bool) : ∀ (f g k a : Nat), q_ct p (f + g) k a = q_ct p g (k + f) (q_ct p f k a)
  | 0, g, k, a => by rw [Nat.zero_add, Nat.add_zero]; rfl
  | f + 1, g, k, a => by
    rw [show f + 1 + g = (f + g) + 1 by omega]
    show q_ct p (f + g) (k + 1) (if p k then a + 1 else a) = q_ct p g (k + (f + 1)) (q_ct p f (k + 1) (if p k then a + 1 else a))
    rw [q_ct_app p f g (k + 1) _, show k + 1 + f = k + (f + 1) by omega]
theorem q_ct_acc (p : Nat → Bool) : ∀ (f k a : Nat), q_ct p f k a = a + q_ct p f k 0
  | 0, _, _ => rfl
  | f + 1, k, a => by
    show q_ct p f (k + 1) (if p k then a + 1 else a) = a + q_ct p f (k + 1) (if p k then 0 + 1 else 0)
    rw [q_ct_acc p f (k + 1) (if p k then a + 1 else a), q_ct_acc p f (k + 1) (if p k then 0 + 1 else 0)]
    by_cases h : p k = true
    · rw [if_pos h, if_pos h]; omega
    · rw [if_neg h, if_neg h]; omega
theorem q_ct_shift (p q : Nat → Bool) (d : Nat) : ∀ (f k a : Nat), (∀ i, k ≤ i → i < k + f → p (i + d) = q i) → q_ct p f (k + d) a = q_ct q f k a
  | 0, _, _, _ => rfl
  | f + 1, k, a, h => by
    show q_ct p f (k + d + 1) (if p (k + d) then a + 1 else a) = q_ct q f (k + 1) (if q k then a + 1 else a)
    rw [h k (Nat.le_refl _) (by omega), show k + d + 1 = (k + 1) + d by omega]
    exact q_ct_shift p q d f (k + 1) _ (fun i h1 h2 => h i (by omega) (by omega))
/-- the plain count of the 32 bits -/
def k_pc (x : Int32) : Nat := q_ct (fun i => bt x i) 32 0 0
theorem bt_nat (x : Int32) (i : Nat) : bt x i = x.toBitVec.toNat.testBit i := by
  unfold bt
  rw [BitVec.testBit_toNat]
theorem k_bc_pc {x : Int32} (h : k_ok x) : k_bc x = nI (k_pc x) := by
  obtain ⟨X, hX⟩ : ∃ X, X = x.toBitVec.toNat := ⟨_, rfl⟩
  have hb : ∀ i, bt x i = X.testBit i := fun i => by rw [hX]; exact bt_nat x i
  have h0 : X < 2 ^ 27 := by
    apply Nat.lt_pow_two_of_testBit
    intro i hi
    rw [← hb]
    cases hc : bt x i with
    | false => rfl
    | true => have := h i hc; omega
  have h1 : X % 2 ^ 16 < 2 ^ 11 := by
    apply Nat.lt_pow_two_of_testBit
    intro i hi
    rw [Nat.testBit_mod_two_pow, ← hb]
    by_cases h16 : i < 16
    · cases hc : bt x i with
      | false => simp
      | true => have := h i hc; omega
    · simp [h16]
  rw [bc_halves x (X % 2 ^ 16) (X / 2 ^ 16) (by omega) (by omega) (by rw [← hX]; omega)]
  unfold k_pc
  rw [show (32 : Nat) = 16 + 16 from rfl, q_ct_app, q_ct_acc _ 16 (0 + 16)]
  congr 2
  · apply q_ct_congr
    intro i _ hi
    rw [Nat.testBit_mod_two_pow, hb]
    simp [show i < 16 by omega]
  · refine Eq.symm ?_
    refine q_ct_shift _ _ 16 16 0 0 (fun i _ hi => ?_)
    rw [hb, Nat.testBit_div_two_pow]
