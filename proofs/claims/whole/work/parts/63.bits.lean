/-! ===== bits (rows 3 to 39 of the kit's BITS.to-paste, pasted) ===== -/
def bt (x : Int32) (i : Nat) : Bool := x.toBitVec.getLsbD i
theorem b_ext {x y : Int32} (h : ∀ i, i < 32 → bt x i = bt y i) : x = y := Int32.toBitVec_inj.mp (BitVec.eq_of_getLsbD_eq (fun i hi => h i hi))
theorem b_or (x y : Int32) (i : Nat) : bt (x ||| y) i = (bt x i || bt y i) := by unfold bt; rw [Int32.toBitVec_or, BitVec.getLsbD_or]
theorem b_and (x y : Int32) (i : Nat) : bt (x &&& y) i = (bt x i && bt y i) := by unfold bt; rw [Int32.toBitVec_and, BitVec.getLsbD_and]
theorem b_xor (x y : Int32) (i : Nat) : bt (x ^^^ y) i = (bt x i ^^ bt y i) := by unfold bt; rw [Int32.toBitVec_xor, BitVec.getLsbD_xor]
theorem b_big {x : Int32} {i : Nat} (h : 32 ≤ i) : bt x i = false := BitVec.getLsbD_of_ge _ _ h
theorem b_m1 : ∀ i, i < 32 → bt (-1) i = true := by decide +kernel
theorem b_0 (i : Nat) : bt 0 i = false := BitVec.getLsbD_zero
theorem s_l : ∀ n, n < 32 → ((nI n &&& 31).toBitVec.smod 32).toNat = n := by decide +kernel
theorem s_u : ∀ n, n < 32 → (((nI n).toUInt32 &&& Int32.toUInt32 31).toBitVec % 32).toNat = n := by decide +kernel
theorem b_shl (n : Nat) (hn : n < 32) (x : Int32) {i : Nat} (hi : i < 32) : bt (x <<< (nI n &&& 31)) i = (decide (n ≤ i) && bt x (i - n)) := by
  unfold bt
  rw [Int32.toBitVec_shiftLeft]
  show (x.toBitVec <<< ((nI n &&& 31).toBitVec.smod 32).toNat).getLsbD i = _
  rw [s_l n hn, BitVec.getLsbD_shiftLeft]
  rcases Nat.lt_or_ge i n with h | h
  · simp [h, Nat.not_le.mpr h]
  · simp [hi, h, Nat.not_lt.mpr h]
theorem b_sshr (n : Nat) (hn : n < 32) (x : Int32) {i : Nat} (hi : i < 32) : bt (x >>> (nI n &&& 31)) i = if n + i < 32 then bt x (n + i) else bt x 31 := by
  unfold bt
  rw [Int32.toBitVec_shiftRight]
  show (x.toBitVec.sshiftRight ((nI n &&& 31).toBitVec.smod 32).toNat).getLsbD i = _
  rw [s_l n hn, BitVec.getLsbD_sshiftRight, BitVec.msb_eq_getLsbD_last]
  simp [hi]
theorem bt_1 (i : Nat) (hi : i < 32) : bt 1 i = decide (i = 0) := (by decide +kernel : ∀ i, i < 32 → bt 1 i = decide (i = 0)) i hi
theorem bit1_bt {x : Int32} {j : Nat} (hj : j < 32) : bit1 x (nI j) = if bt x j = true then 1 else 0 := by
  unfold bit1
  have e : ((x >>> (nI j &&& 31)) &&& 1 = 1) ↔ bt x j = true := by
    have g : ∀ i, i < 32 → bt ((x >>> (nI j &&& 31)) &&& 1) i = (decide (i = 0) && bt x j) := fun i hi => by
      rw [b_and, bt_1 i hi, b_sshr j hj x hi]
      by_cases q : i = 0
      · subst q; rw [if_pos (by omega)]; simp
      · simp [q]
    constructor
    · intro h
      have := g 0 (by decide)
      rw [h] at this
      simpa [bt_1] using this.symm
    · intro h
      refine b_ext fun i hi => ?_
      rw [g i hi, h, bt_1 i hi, Bool.and_true]
  by_cases q : bt x j = true
  · rw [if_pos q, if_pos (e.mpr q)]
  · rw [if_neg q, if_neg (fun z => q (e.mp z))]
/-- one bit -/
theorem bt_sh {i j : Nat} (hi : i < 32) (hj : j < 32) : bt ((1 : Int32) <<< (nI j &&& 31)) i = decide (i = j) := by
  rw [b_shl j hj 1 hi, bt_1 _ (by omega)]
  by_cases q : i = j
  · subst q; simp
  · by_cases w : j ≤ i
    · simp [q, w]; omega
    · simp [q, w]
theorem bit1_xor {x : Int32} {i j : Nat} (hi : i < 32) (hj : j < 32) : bit1 (x ^^^ ((1 : Int32) <<< (nI i &&& 31))) (nI j) = if j = i then (if bit1 x (nI i) = 0 then 1 else 0) else bit1 x (nI j) := by
  rw [bit1_bt hj, bit1_bt hj, bit1_bt hi, b_xor, bt_sh hj hi]
  by_cases q : j = i
  · subst q
    cases bt x j <;> simp
  · cases bt x j <;> simp [q]
