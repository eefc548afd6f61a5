/-! ===== minutes by draws (rows wb_ pasted from the kit's BITS.to-paste) ===== -/
theorem wb_tb (n : Nat) : (lN n).toBitVec = BitVec.ofNat 64 n := rfl
theorem wb_inj {a b : Int64} (h : a.toBitVec = b.toBitVec) : a = b := Int64.toBitVec_inj.mp h
theorem wb_tn {n : Nat} (h : n < 2 ^ 64) : (lN n).toBitVec.toNat = n := by rw [wb_tb, BitVec.toNat_ofNat, Nat.mod_eq_of_lt h]
theorem wb_lt2 {a b : Nat} (h : a < b) : 2 ^ a < 2 ^ b := Nat.pow_lt_pow_right (by decide) h
theorem wb_and {a b : Nat} (ha : a < 2 ^ 64) (hb : b < 2 ^ 64) : lN a &&& lN b = lN (a &&& b) := by
  apply wb_inj
  rw [Int64.toBitVec_and, wb_tb, wb_tb, wb_tb]
  apply BitVec.eq_of_toNat_eq
  rw [BitVec.toNat_and, BitVec.toNat_ofNat, BitVec.toNat_ofNat, BitVec.toNat_ofNat, Nat.mod_eq_of_lt ha, Nat.mod_eq_of_lt hb, Nat.mod_eq_of_lt (Nat.and_lt_two_pow _ hb)]
theorem wb_mask {n k : Nat} (hn : n < 2 ^ 64) (hk : k < 64) : lN n &&& lN (2 ^ k - 1) = lN (n % 2 ^ k) := by
  rw [wb_and hn (by have := wb_lt2 hk; omega), Nat.and_two_pow_sub_one_eq_mod]
def nx (n : Nat) : Nat := (n * 1103515245 + 12345) % 2147483648
theorem nx_lt (n : Nat) : nx n < 2147483648 := Nat.mod_lt _ (by decide)
theorem f_167 {c11 : Cl} {B n : Nat} (h : cJ c11 10 B = lN n) (hn : n < 2147483648) : F_167 c11 B = some (nI (nx n / 65536), sJ c11 10 B (lN (nx n))) := by
  unfold F_167
  rw [h]
  have e : (lN n * 1103515245 + 12345) &&& 2147483647 = lN (nx n) := by
    rw [show lN n * (1103515245 : Int64) = lN (n * 1103515245) from lN_mul n 1103515245, show lN (n * 1103515245) + (12345 : Int64) = lN (n * 1103515245 + 12345) from lN_add _ 12345]
    exact wb_mask (n := n * 1103515245 + 12345) (k := 31) (by omega) (by decide)
  rw [e]
  refine ob_mk rfl ?_
  have l := nx_lt n
  rw [cJ_sJ, if_pos ⟨rfl, rfl⟩]
  refine ob_mk (v := lN (nx n / 65536)) ?_ ?_
  · unfold ldv
    rw [if_neg (by decide)]
    exact congrArg some (pk_lDiv (a := nx n) (b := 65536) (by omega) (by decide) (by decide))
  · rw [lN_i]
theorem f_293 {c12 : Cl} {B2 n k : Nat} (h : cJ c12 46 B2 = lN n) (hn : n < 2147483648) (k0 : 0 < k) (k1 : k < 100) : F_293 c12 B2 (nI k) = some (nI (nx n / 65536 % k), sJ c12 46 B2 (lN (nx n))) := by
  unfold F_293
  rw [h]
  have e : lrm (lN n * 1103515245 + 12345) 2147483648 = some (lN (nx n)) := by
    rw [show lN n * (1103515245 : Int64) = lN (n * 1103515245) from lN_mul n 1103515245, show lN (n * 1103515245) + (12345 : Int64) = lN (n * 1103515245 + 12345) from lN_add _ 12345]
    unfold lrm
    rw [if_neg (by decide)]
    exact congrArg some (pk_lRem (a := n * 1103515245 + 12345) (b := 2147483648) (by omega) (by decide) (by decide))
  have l := nx_lt n
  refine ob_mk e (ob_mk rfl ?_)
  rw [cJ_sJ, if_pos ⟨rfl, rfl⟩]
  refine ob_mk (v := lN (nx n / 65536)) ?_ (ob_mk (v := lN (nx n / 65536 % k)) ?_ ?_)
  · unfold ldv
    rw [if_neg (by decide)]
    exact congrArg some (pk_lDiv (a := nx n) (b := 65536) (by omega) (by decide) (by decide))
  · rw [nI_l (by omega)]
    unfold lrm
    rw [if_neg (fun z => by have := (pk_lEQ (a := k) (b := 0) (by omega) (by decide)).mp z; omega)]
    exact congrArg some (pk_lRem (by omega) k0 (by omega))
  · rw [lN_i]
/-- a set of rooms as bits; how many -/
def msk (can : Nat → Int32) : Nat → Nat
  | 0 => 0
  | n + 1 => msk can n + (if can n = 0 then 0 else 2 ^ n)
def cb (can : Nat → Int32) : Nat → Nat
  | 0 => 0
  | n + 1 => cb can n + (if can n = 0 then 0 else 1)
def popN (m : Nat) : Nat := m % 2 + m / 2 % 2 + m / 4 % 2 + m / 8 % 2 + m / 16 % 2 + m / 32 % 2
theorem msk_lt (can : Nat → Int32) : ∀ n, msk can n < 2 ^ n
  | 0 => by show 0 < 2 ^ 0; decide
  | n + 1 => by
    have := msk_lt can n
    show msk can n + (if can n = 0 then 0 else 2 ^ n) < 2 ^ (n + 1)
    rw [Nat.pow_succ]
    split <;> omega
theorem msk_mod (can : Nat → Int32) {r : Nat} : ∀ {n : Nat}, r ≤ n → msk can n % 2 ^ r = msk can r
  | 0, h => by have : r = 0 := by omega
               subst this; rfl
  | n + 1, h => by
    by_cases q : r = n + 1
    · subst q; exact Nat.mod_eq_of_lt (msk_lt can _)
    · show (msk can n + (if can n = 0 then 0 else 2 ^ n)) % 2 ^ r = _
      rw [← msk_mod can (show r ≤ n by omega)]
      split
      · rfl
      · rw [show (2 : Nat) ^ n = 2 ^ r * 2 ^ (n - r) by rw [← Nat.pow_add]; congr 1; omega, Nat.add_mul_mod_self_left]
theorem msk_bit (can : Nat → Int32) {r n : Nat} (h : r < n) : msk can n / 2 ^ r % 2 = if can r = 0 then 0 else 1 := by
  rw [← Nat.mod_mul_right_div_self, ← Nat.pow_succ, msk_mod can (show r + 1 ≤ n by omega)]
  show (msk can r + (if can r = 0 then 0 else 2 ^ r)) / 2 ^ r = _
  have l := msk_lt can r
  have p : 0 < 2 ^ r := Nat.two_pow_pos r
  split
  · rw [Nat.add_zero, Nat.div_eq_of_lt l]
  · rw [Nat.add_div_right _ p, Nat.div_eq_of_lt l]
theorem pop_up : ∀ n : Fin 6, ∀ m : Fin 64, m.val < 2 ^ n.val → popN (m.val + 2 ^ n.val) = popN m.val + 1 := by decide +kernel
theorem pop_cb (can : Nat → Int32) : ∀ {n : Nat}, n ≤ 6 → popN (msk can n) = cb can n
  | 0, _ => by show popN 0 = 0; decide
  | n + 1, h => by
    have l := msk_lt can n
    have ih := pop_cb can (show n ≤ 6 by omega)
    show popN (msk can n + (if can n = 0 then 0 else 2 ^ n)) = cb can n + (if can n = 0 then 0 else 1)
    split
    · exact ih
    · have l6 : (2 : Nat) ^ n ≤ 2 ^ 5 := Nat.pow_le_pow_right (by decide) (by omega)
      rw [pop_up ⟨n, by omega⟩ ⟨msk can n, by omega⟩ l, ih]
theorem or_up : ∀ n : Fin 6, ∀ m : Fin 64, m.val < 2 ^ n.val → nI m.val ||| ((1 : Int32) <<< (nI n.val &&& 31)) = nI (m.val + 2 ^ n.val) := by decide +kernel
theorem f_300 : ∀ m : Fin 64, F_300 (nI m.val) = some (nI (popN m.val)) := by decide +kernel
def itr : Nat → Int32 → Int32
  | 0, x => x
  | k + 1, x => itr k (x &&& (x - 1))
theorem sel_ok : ∀ m : Fin 64, ∀ k : Fin 6, k.val < popN m.val → ∃ r : Fin 6, F_299 (itr k.val (nI m.val)) = some (nI r.val) ∧ m.val / 2 ^ r.val % 2 = 1 ∧ popN (m.val % 2 ^ r.val) = k.val := by decide +kernel
section Draw
variable {c1 c8 c11 c12 : Cl} {st B B2 : Nat} {S : Nat → Int32} {R D H Q M L E : Nat} {K : Nat → Nat}
theorem gl_101 {h : Nat} (hh : h < H) (hS : SR c1 c8 st S R D H Q M L E K) : ∀ m i, i + m = R → G_101 c1 c8 st 0 [nI h, nI (msk (cg S H D h) i), nI i] [] [] = some (nI (msk (cg S H D h) R))
  | 0, i, hi => by
    have : i = R := by omega
    subst this
    obtain ⟨⟨h1, -, r6⟩, -⟩ := hS.1.1
    rw [G_101]
    rw [h1, if_pos (nI_le (Nat.le_refl _) (by omega))]
  | m + 1, i, hi => by
    have ih := gl_101 hh hS m (i + 1) (by omega)
    obtain ⟨⟨h1, -, r6⟩, -⟩ := hS.1.1
    have l := msk_lt (cg S H D h) i
    have l6 : (2 : Nat) ^ i ≤ 2 ^ 5 := Nat.pow_le_pow_right (by decide) (by omega)
    rw [G_101]
    rw [h1]
    refine in_neg (nI_ge (by omega) (by omega)) (ob_mk (f_91 hh (by omega) hS) (ob_mk (v := nI (msk (cg S H D h) (i + 1))) ?_ (by rw [nI_1]; exact ih)))
    show _ = some (nI (msk (cg S H D h) i + (if cg S H D h i = 0 then 0 else 2 ^ i)))
    by_cases q : cg S H D h i = 0
    · rw [if_pos q, if_pos q]; rfl
    · rw [if_neg q, if_neg q, or_up ⟨i, by omega⟩ ⟨msk (cg S H D h) i, by omega⟩ l]
theorem f_101 {h : Nat} (hh : h < H) (hS : SR c1 c8 st S R D H Q M L E K) : F_101 c1 c8 st (nI h) = some (nI (msk (cg S H D h) R)) := by
  unfold F_101
  exact gl_101 hh hS R 0 (by omega)
theorem gl_102 {k : Nat} (hk : k < 100) : ∀ m i (x : Int32), i + m = k → G_102 c1 c8 st 0 [nI k, x, nI i] [] [] = F_299 (itr m x)
  | 0, i, x, hi => by
    have : i = k := by omega
    subst this
    rw [G_102]
    rw [if_pos (nI_le (Nat.le_refl _) (by omega))]
    show (F_299 x >>= fun r => some r) = F_299 x
    cases F_299 x <;> rfl
  | m + 1, i, x, hi => by
    have ih := gl_102 hk m (i + 1) (x &&& (x - 1)) (by omega)
    rw [G_102]
    rw [if_neg (nI_ge (by omega) (by omega)), nI_1, ih]
    rfl
/-- of the rooms to which a head could go the one with so many ahead of it -/
theorem f_102 {h k : Nat} (hh : h < H) (hS : SR c1 c8 st S R D H Q M L E K) (hk : k < cb (cg S H D h) R) : ∃ r, r < R ∧ F_102 c1 c8 st (nI h) (nI k) = some (nI r) ∧ ¬ cg S H D h r = 0 ∧ cb (cg S H D h) r = k := by
  have r6 := hS.1.1.1.2.2
  have l := msk_lt (cg S H D h) R
  have l6 : (2 : Nat) ^ R ≤ 2 ^ 6 := Nat.pow_le_pow_right (by decide) (by omega)
  have pc := pop_cb (cg S H D h) r6
  have p6 : popN (msk (cg S H D h) R) ≤ 6 := by unfold popN; omega
  obtain ⟨r, e1, e2, e3⟩ := sel_ok ⟨msk (cg S H D h) R, by omega⟩ ⟨k, by omega⟩ (by show k < popN (msk (cg S H D h) R); omega)
  dsimp only at e1 e2 e3
  have hr : r.val < R := by
    refine Nat.lt_of_not_le fun q => ?_
    have l7 : (2 : Nat) ^ R ≤ 2 ^ r.val := Nat.pow_le_pow_right (by decide) q
    rw [Nat.div_eq_of_lt (by omega)] at e2
    cases e2
  refine ⟨r.val, hr, ?_, fun z => ?_, ?_⟩
  · unfold F_102
    refine ob_mk (f_101 hh hS) ?_
    have := gl_102 (c1 := c1) (c8 := c8) (st := st) (k := k) (by omega) k 0 (nI (msk (cg S H D h) R)) (by omega)
    exact this.trans e1
  · rw [msk_bit _ hr, if_pos z] at e2; cases e2
  · rw [msk_mod _ (by omega), pop_cb _ (by omega)] at e3; exact e3
theorem cb_le (can : Nat → Int32) : ∀ n, cb can n ≤ n
  | 0 => Nat.le_refl _
  | n + 1 => by
    have := cb_le can n
    show cb can n + (if can n = 0 then 0 else 1) ≤ n + 1
    split <;> omega
theorem cb_mono (can : Nat → Int32) {r : Nat} : ∀ {n : Nat}, r ≤ n → cb can r ≤ cb can n
  | 0, h => by have : r = 0 := by omega
               subst this; exact Nat.le_refl _
  | n + 1, h => by
    by_cases q : r = n + 1
    · subst q; exact Nat.le_refl _
    · have := cb_mono can (show r ≤ n by omega)
      show _ ≤ cb can n + (if can n = 0 then 0 else 1)
      omega
theorem cb_lt (can : Nat → Int32) {r n : Nat} (h : r < n) (q : ¬ can r = 0) : cb can r < cb can n := by
  have := cb_mono can (show r + 1 ≤ n by omega)
  have e : cb can (r + 1) = cb can r + 1 := by show cb can r + (if can r = 0 then 0 else 1) = _; rw [if_neg q]
  omega
end Draw
