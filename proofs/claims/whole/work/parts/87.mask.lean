/-! ===== sets of rooms as numbers; sums of longs ===== -/
def mk (p : Nat → Bool) : Nat → Nat
  | 0 => 0
  | n + 1 => mk p n + (if p n = true then 2 ^ n else 0)
theorem mk_lt (p : Nat → Bool) : ∀ n, mk p n < 2 ^ n
  | 0 => by show 0 < 2 ^ 0; decide
  | n + 1 => by
    have := mk_lt p n
    show mk p n + (if p n = true then 2 ^ n else 0) < 2 ^ (n + 1)
    rw [Nat.pow_succ]
    split <;> omega
theorem mk_tb (p : Nat → Bool) : ∀ n i, (mk p n).testBit i = (decide (i < n) && p i)
  | 0, i => by show (0 : Nat).testBit i = _; simp
  | n + 1, i => by
    have ih := mk_tb p n i
    have l := mk_lt p n
    by_cases w : n < i
    · have l2 := mk_lt p (n + 1)
      have l3 : (2 : Nat) ^ (n + 1) ≤ 2 ^ i := Nat.pow_le_pow_right (by decide) (by omega)
      rw [Nat.testBit_lt_two_pow (by omega)]
      have : ¬ i < n + 1 := by omega
      simp [this]
    · show (mk p n + (if p n = true then 2 ^ n else 0)).testBit i = _
      by_cases u : i = n
      · subst u
        by_cases q : p i = true
        · rw [if_pos q, Nat.add_comm, Nat.testBit_two_pow_add_eq, Nat.testBit_lt_two_pow l]; simp [q]
        · rw [if_neg q, Nat.add_zero, Nat.testBit_lt_two_pow l]; simp [q]
      · have a1 : i < n := by omega
        have a2 : i < n + 1 := by omega
        by_cases q : p n = true
        · rw [if_pos q, Nat.add_comm, Nat.testBit_two_pow_add_gt a1, ih]; simp [a1, a2]
        · rw [if_neg q, Nat.add_zero, ih]; simp [a1, a2]
theorem mk_cg {p q : Nat → Bool} : ∀ {n : Nat}, (∀ i, i < n → p i = q i) → mk p n = mk q n
  | 0, _ => rfl
  | n + 1, h => by show mk p n + _ = mk q n + _; rw [mk_cg (fun i z => h i (by omega)), h n (by omega)]
theorem mk_ij {p q : Nat → Bool} {n i : Nat} (h : mk p n = mk q n) (hi : i < n) : p i = q i := by
  have a := mk_tb p n i
  have b := mk_tb q n i
  rw [h, b] at a
  simpa [hi] using a.symm
theorem mk_of {s n : Nat} (h : s < 2 ^ n) : mk (fun i => s.testBit i) n = s := by
  refine Nat.eq_of_testBit_eq fun i => ?_
  rw [mk_tb]
  by_cases w : i < n
  · simp [w]
  · have l3 : (2 : Nat) ^ n ≤ 2 ^ i := Nat.pow_le_pow_right (by decide) (by omega)
    rw [Nat.testBit_lt_two_pow (show s < 2 ^ i by omega)]; simp
theorem mk_z {p : Nat → Bool} {n : Nat} (h : ∀ i, i < n → p i = false) : mk p n = 0 := by
  refine Nat.eq_of_testBit_eq fun i => ?_
  rw [mk_tb, Nat.zero_testBit]
  by_cases w : i < n
  · simp [h i w]
  · simp [w]
theorem mk_nz {p : Nat → Bool} {n : Nat} (h : ¬ mk p n = 0) : ∃ i, i < n ∧ p i = true := by
  refine Classical.byContradiction fun z => h (mk_z fun i hi => ?_)
  cases e : p i with
  | false => rfl
  | true => exact absurd ⟨i, hi, e⟩ z
theorem bt_nI {m i : Nat} (hi : i < 32) : bt (nI m) i = m.testBit i := by
  unfold bt
  show (BitVec.ofNat 32 m).getLsbD i = _
  rw [BitVec.getLsbD_ofNat]
  simp [hi]
theorem bt_mk {p : Nat → Bool} {n i : Nat} (hi : i < 32) : bt (nI (mk p n)) i = (decide (i < n) && p i) := by rw [bt_nI hi, mk_tb]
theorem b1_mk {p : Nat → Bool} {n i : Nat} (hi : i < n) (hn : n ≤ 31) : bit1 (nI (mk p n)) (nI i) = if p i = true then 1 else 0 := by
  rw [bit1_bt (by omega), bt_mk (by omega)]; simp [hi]
theorem b1_tb {s i : Nat} (hi : i < 32) : bit1 (nI s) (nI i) = if s.testBit i = true then 1 else 0 := by
  rw [bit1_bt hi, bt_nI hi]
theorem bit1_if {x y : Int32} : (((x >>> (y &&& 31)) &&& 1) = 1) ↔ ¬ bit1 x y = 0 := by
  unfold bit1
  by_cases q : ((x >>> (y &&& 31)) &&& 1) = 1
  · rw [if_pos q]; exact ⟨fun _ => by decide, fun _ => q⟩
  · rw [if_neg q]; exact ⟨fun z => absurd z q, fun z => absurd rfl z⟩
theorem mk_and {p q : Nat → Bool} {n : Nat} (hn : n ≤ 31) : nI (mk p n) &&& nI (mk q n) = nI (mk (fun i => p i && q i) n) := by
  refine b_ext fun i hi => ?_
  rw [b_and, bt_mk hi, bt_mk hi, bt_mk hi]
  cases decide (i < n) <;> simp
theorem mk_or {p q : Nat → Bool} {n : Nat} (hn : n ≤ 31) : nI (mk p n) ||| nI (mk q n) = nI (mk (fun i => p i || q i) n) := by
  refine b_ext fun i hi => ?_
  rw [b_or, bt_mk hi, bt_mk hi, bt_mk hi]
  cases decide (i < n) <;> simp
theorem mk_or1 {p : Nat → Bool} {n j : Nat} (hn : n ≤ 31) (hj : j < n) : nI (mk p n) ||| ((1 : Int32) <<< (nI j &&& 31)) = nI (mk (fun i => p i || decide (i = j)) n) := by
  refine b_ext fun i hi => ?_
  rw [b_or, bt_mk hi, bt_sh hi (by omega), bt_mk hi]
  by_cases w : i < n
  · simp [w]
  · have : ¬ i = j := by omega
    simp [w, this]
theorem mk_sh {n j : Nat} (hn : n ≤ 31) (hj : j < n) : (1 : Int32) <<< (nI j &&& 31) = nI (mk (fun i => decide (i = j)) n) := by
  refine b_ext fun i hi => ?_
  rw [bt_sh hi (by omega), bt_mk hi]
  by_cases w : i < n
  · simp [w]
  · have : ¬ i = j := by omega
    simp [w, this]
theorem mk_0 {p : Nat → Bool} {n : Nat} (hn : n ≤ 30) : nI (mk p n) = 0 ↔ mk p n = 0 := by
  have l := mk_lt p n
  have l2 : (2 : Nat) ^ n ≤ 2 ^ 30 := Nat.pow_le_pow_right (by decide) hn
  exact nI_eq (b := 0) (by omega) (by decide)
theorem sh_m1 : ∀ j : Fin 7, ((1 : Int32) <<< (nI j.val &&& 31)) - 1 = nI (2 ^ j.val - 1) := by decide +kernel
theorem mk_low {p : Nat → Bool} {n j : Nat} (hn : n ≤ 31) (hj : j < 7) : nI (mk p n) &&& (((1 : Int32) <<< (nI j &&& 31)) - 1) = nI (mk (fun i => p i && decide (i < j)) n) := by
  rw [sh_m1 ⟨j, hj⟩]
  refine b_ext fun i hi => ?_
  rw [b_and, bt_mk hi, bt_nI hi, bt_mk hi, Nat.testBit_two_pow_sub_one]
  cases decide (i < n) <;> simp
/-- whether one of the first so many -/
def anyb (p : Nat → Bool) : Nat → Bool
  | 0 => false
  | n + 1 => anyb p n || p n
theorem anyb_t {p : Nat → Bool} : ∀ {n : Nat}, anyb p n = true ↔ ∃ i, i < n ∧ p i = true
  | 0 => ⟨fun h => Bool.noConfusion h, fun ⟨i, h, _⟩ => absurd h (Nat.not_lt_zero _)⟩
  | n + 1 => by
    show (anyb p n || p n) = true ↔ _
    rw [Bool.or_eq_true, anyb_t]
    constructor
    · rintro (⟨i, a, b⟩ | h)
      · exact ⟨i, by omega, b⟩
      · exact ⟨n, by omega, h⟩
    · rintro ⟨i, a, b⟩
      by_cases w : i = n
      · subst w; exact Or.inr b
      · exact Or.inl ⟨i, by omega, b⟩
theorem anyb_cg {p q : Nat → Bool} : ∀ {n : Nat}, (∀ i, i < n → p i = q i) → anyb p n = anyb q n
  | 0, _ => rfl
  | n + 1, h => by show (anyb p n || p n) = (anyb q n || q n); rw [anyb_cg (fun i z => h i (by omega)), h n (by omega)]
/-- sums of longs, going round -/
def sl (f : Nat → Int64) : Nat → Int64
  | 0 => 0
  | n + 1 => sl f n + f n
theorem sl_cg {f g : Nat → Int64} : ∀ {n : Nat}, (∀ i, i < n → f i = g i) → sl f n = sl g n
  | 0, _ => rfl
  | n + 1, h => by show sl f n + f n = sl g n + g n; rw [sl_cg (fun i z => h i (by omega)), h n (by omega)]
theorem sl_z {f : Nat → Int64} : ∀ {n : Nat}, (∀ i, i < n → f i = 0) → sl f n = 0
  | 0, _ => rfl
  | n + 1, h => by show sl f n + f n = 0; rw [sl_z (fun i z => h i (by omega)), h n (by omega)]; rfl
theorem sl_ext {f : Nat → Int64} {n : Nat} : ∀ {m : Nat}, (∀ i, n ≤ i → i < n + m → f i = 0) → sl f (n + m) = sl f n
  | 0, _ => rfl
  | m + 1, h => by show sl f (n + m) + f (n + m) = sl f n; rw [sl_ext (fun i a b => h i a (by omega)), h (n + m) (by omega) (by omega), Int64.add_zero]
/-- one alone gives something -/
theorem sl_1 {p : Nat → Bool} {v : Int64} : ∀ {n : Nat}, (∀ i j, i < n → j < n → p i = true → p j = true → i = j) → sl (fun i => if p i = true then v else 0) n = if anyb p n = true then v else 0
  | 0, _ => rfl
  | n + 1, h => by
    have ih := sl_1 (p := p) (v := v) (n := n) (fun i j a b => h i j (by omega) (by omega))
    show sl (fun i => if p i = true then v else 0) n + (if p n = true then v else 0) = if (anyb p n || p n) = true then v else 0
    by_cases q : p n = true
    · have z : sl (fun i => if p i = true then v else 0) n = 0 := sl_z fun i hi => by
        by_cases w : p i = true
        · have := h i n (by omega) (by omega) w q
          omega
        · exact if_neg w
      rw [z, if_pos q, if_pos (by rw [q, Bool.or_true]), Int64.zero_add]
    · have q' : p n = false := by cases e : p n with | false => rfl | true => exact absurd e q
      rw [ih, if_neg q, q', Bool.or_false, Int64.add_zero]
