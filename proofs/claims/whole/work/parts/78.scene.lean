/-! ===== who lives, by their order; rows of rooms as one number ===== -/
/-- how many live ahead of a head -/
def lc (S : Nat → Int32) : Nat → Nat
  | 0 => 0
  | n + 1 => lc S n + (if lv S n = 0 then 0 else 1)
/-- the living by their order -/
def nbf (S : Nat → Int32) : Nat → Nat → Nat
  | 0 => fun _ => 0
  | n + 1 => if lv S n = 0 then nbf S n else fun i => if i = lc S n then n else nbf S n i
theorem lc_le (S : Nat → Int32) : ∀ n, lc S n ≤ n
  | 0 => Nat.le_refl _
  | n + 1 => by
    have := lc_le S n
    show lc S n + (if lv S n = 0 then 0 else 1) ≤ n + 1
    split <;> omega
theorem lc_s {S : Nat → Int32} {n : Nat} (h : ¬ lv S n = 0) : lc S (n + 1) = lc S n + 1 := by
  show lc S n + (if lv S n = 0 then 0 else 1) = _; rw [if_neg h]
theorem lc_d {S : Nat → Int32} {n : Nat} (h : lv S n = 0) : lc S (n + 1) = lc S n := by
  show lc S n + (if lv S n = 0 then 0 else 1) = _; rw [if_pos h]; rfl
theorem lc_mono {S : Nat → Int32} {m : Nat} : ∀ {n : Nat}, m ≤ n → lc S m ≤ lc S n
  | 0, h => by have : m = 0 := by omega
               subst this; exact Nat.le_refl _
  | n + 1, h => by
    by_cases q : m = n + 1
    · subst q; exact Nat.le_refl _
    · have := lc_mono (S := S) (show m ≤ n by omega)
      show _ ≤ lc S n + (if lv S n = 0 then 0 else 1)
      omega
theorem lc_lt {S : Nat → Int32} {m n : Nat} (h : m < n) (q : ¬ lv S m = 0) : lc S m < lc S n := by
  have := lc_mono (S := S) (show m + 1 ≤ n by omega)
  have := lc_s q
  omega
/-- the head at a place: it lives, and that is its place -/
theorem nbf_ok {S : Nat → Int32} : ∀ {n i : Nat}, i < lc S n → nbf S n i < n ∧ ¬ lv S (nbf S n i) = 0 ∧ lc S (nbf S n i) = i
  | 0, i, h => absurd h (Nat.not_lt_zero _)
  | n + 1, i, h => by
    unfold nbf
    by_cases q : lv S n = 0
    · rw [if_pos q]
      rw [lc_d q] at h
      obtain ⟨a, b, c⟩ := nbf_ok h
      exact ⟨by omega, b, c⟩
    · rw [if_neg q]
      rw [lc_s q] at h
      by_cases w : i = lc S n
      · rw [if_pos w]; exact ⟨by omega, q, w.symm⟩
      · rw [if_neg w]
        obtain ⟨a, b, c⟩ := nbf_ok (show i < lc S n by omega)
        exact ⟨by omega, b, c⟩
theorem lc_inj {S : Nat → Int32} {a b : Nat} (ha : ¬ lv S a = 0) (hb : ¬ lv S b = 0) (h : lc S a = lc S b) : a = b := by
  rcases Nat.lt_trichotomy a b with q | q | q
  · have := lc_lt q ha; omega
  · exact q
  · have := lc_lt q hb; omega
/-- a living head stands at its place -/
theorem nbf_lc {S : Nat → Int32} {n h : Nat} (hh : h < n) (q : ¬ lv S h = 0) : nbf S n (lc S h) = h := by
  obtain ⟨a, b, c⟩ := nbf_ok (lc_lt hh q)
  exact lc_inj b q c
theorem nbf_st {S : Nat → Int32} {m i : Nat} : ∀ {n : Nat}, m ≤ n → i < lc S m → nbf S n i = nbf S m i
  | 0, h, _ => by have : m = 0 := by omega
                  subst this; rfl
  | n + 1, h, hi => by
    by_cases q : m = n + 1
    · subst q; rfl
    · have ih := nbf_st (S := S) (n := n) (show m ≤ n by omega) hi
      have := lc_mono (S := S) (show m ≤ n by omega)
      rw [← ih]
      show (if lv S n = 0 then nbf S n else fun i => if i = lc S n then n else nbf S n i) i = _
      split
      · rfl
      · dsimp only; rw [if_neg (by omega)]
theorem nbf_mono {S : Nat → Int32} {n i j : Nat} (h : i < j) (hj : j < lc S n) : nbf S n i < nbf S n j := by
  obtain ⟨a1, a2, a3⟩ := nbf_ok (show i < lc S n by omega)
  obtain ⟨b1, b2, b3⟩ := nbf_ok hj
  refine Nat.lt_of_not_le fun q => ?_
  have := lc_mono (S := S) q
  omega
/-- sums over the living -/
theorem su_lc {S : Nat → Int32} {f : Nat → Int32} {H : Nat} : ∀ {n : Nat}, n ≤ H → su (fun i => f (nbf S H i)) (lc S n) = su (fun h => if lv S h = 0 then 0 else f h) n
  | 0, _ => rfl
  | n + 1, h => by
    have ih := su_lc (S := S) (f := f) (H := H) (n := n) (by omega)
    show _ = su (fun h => if lv S h = 0 then 0 else f h) n + (if lv S n = 0 then 0 else f n)
    rw [← ih]
    by_cases q : lv S n = 0
    · rw [lc_d q, if_pos q, Int32.add_zero]
    · rw [lc_s q, if_neg q]
      show su (fun i => f (nbf S H i)) (lc S n) + f (nbf S H (lc S n)) = _
      rw [nbf_lc (by omega) q]
/-- rooms as digits -/
def cd (b : Nat) (p : Nat → Nat) : Nat → Nat
  | 0 => 0
  | n + 1 => cd b p n * b + p n
theorem cd_lt {b : Nat} {p : Nat → Nat} : ∀ {n : Nat}, (∀ i, i < n → p i < b) → cd b p n < b ^ n
  | 0, _ => Nat.one_pos
  | n + 1, h => by
    have ih := cd_lt (b := b) (p := p) (n := n) (fun i q => h i (by omega))
    have hn := h n (by omega)
    show cd b p n * b + p n < b ^ (n + 1)
    rw [Nat.pow_succ]
    have : (cd b p n + 1) * b ≤ b ^ n * b := Nat.mul_le_mul_right b ih
    rw [Nat.add_mul] at this
    omega
theorem cd_mod {b : Nat} {p : Nat → Nat} {n : Nat} (h : p n < b) : cd b p (n + 1) % b = p n := by
  show (cd b p n * b + p n) % b = p n
  rw [Nat.mul_comm, Nat.mul_add_mod, Nat.mod_eq_of_lt h]
theorem cd_div {b : Nat} {p : Nat → Nat} {n : Nat} (h : p n < b) : cd b p (n + 1) / b = cd b p n := by
  show (cd b p n * b + p n) / b = cd b p n
  rw [Nat.mul_comm, Nat.mul_add_div (by omega), Nat.div_eq_of_lt h, Nat.add_zero]
theorem cd_cg {b : Nat} {p q : Nat → Nat} : ∀ {n : Nat}, (∀ i, i < n → p i = q i) → cd b p n = cd b q n
  | 0, _ => rfl
  | n + 1, h => by show cd b p n * b + p n = cd b q n * b + q n; rw [cd_cg (fun i q => h i (by omega)), h n (by omega)]
/-- one digit otherwise -/
theorem cd_up {b : Nat} {p q : Nat → Nat} {i : Nat} (hq : ∀ j, j ≠ i → q j = p j) : ∀ {n : Nat}, i < n → cd b q n + p i * b ^ (n - 1 - i) = cd b p n + q i * b ^ (n - 1 - i)
  | 0, h => absurd h (Nat.not_lt_zero _)
  | n + 1, h => by
    show cd b q n * b + q n + p i * b ^ (n + 1 - 1 - i) = cd b p n * b + p n + q i * b ^ (n + 1 - 1 - i)
    by_cases w : i = n
    · subst w
      rw [show i + 1 - 1 - i = 0 by omega, Nat.pow_zero, cd_cg (p := q) (q := p) (fun j z => hq j (by omega))]
      omega
    · have ih := cd_up (b := b) hq (n := n) (by omega)
      rw [hq n (by omega), show n + 1 - 1 - i = n - 1 - i + 1 by omega, Nat.pow_succ]
      have e1 : cd b q n * b + p n + p i * (b ^ (n - 1 - i) * b) = (cd b q n + p i * b ^ (n - 1 - i)) * b + p n := by rw [Nat.add_mul, Nat.mul_assoc]; omega
      have e2 : cd b p n * b + p n + q i * (b ^ (n - 1 - i) * b) = (cd b p n + q i * b ^ (n - 1 - i)) * b + p n := by rw [Nat.add_mul, Nat.mul_assoc]; omega
      rw [e1, e2, ih]
theorem cd_inj {b : Nat} {p q : Nat → Nat} : ∀ {n : Nat}, (∀ i, i < n → p i < b) → (∀ i, i < n → q i < b) → cd b p n = cd b q n → ∀ i, i < n → p i = q i
  | 0, _, _, _, i, hi => absurd hi (Nat.not_lt_zero _)
  | n + 1, hp, hq, h, i, hi => by
    have e1 : p n = q n := by rw [← cd_mod (p := p) (hp n (by omega)), h, cd_mod (hq n (by omega))]
    have e2 : cd b p n = cd b q n := by rw [← cd_div (p := p) (hp n (by omega)), h, cd_div (hq n (by omega))]
    by_cases w : i = n
    · subst w; exact e1
    · exact cd_inj (fun j z => hp j (by omega)) (fun j z => hq j (by omega)) e2 i (by omega)
/-- every number is a row of digits -/
def dg (b n s : Nat) (i : Nat) : Nat := s / b ^ (n - 1 - i) % b
theorem cd_dg {b : Nat} (hb : 0 < b) : ∀ {n s : Nat}, s < b ^ n → cd b (dg b n s) n = s
  | 0, s, h => by
    have : s = 0 := by rw [Nat.pow_zero] at h; omega
    subst this; rfl
  | n + 1, s, h => by
    show cd b (dg b (n + 1) s) n * b + dg b (n + 1) s n = s
    have e1 : dg b (n + 1) s n = s % b := by unfold dg; rw [show n + 1 - 1 - n = 0 by omega, Nat.pow_zero, Nat.div_one]
    have e2 : cd b (dg b (n + 1) s) n = cd b (dg b n (s / b)) n := cd_cg fun i hi => by
      unfold dg
      rw [Nat.div_div_eq_div_mul, show n + 1 - 1 - i = n - 1 - i + 1 by omega, Nat.pow_succ, Nat.mul_comm b]
    have h2 : s / b < b ^ n := by
      rw [Nat.pow_succ] at h
      exact (Nat.div_lt_iff_lt_mul hb).mpr h
    rw [e1, e2, cd_dg hb h2, Nat.mul_comm]
    exact Nat.div_add_mod s b
theorem dg_lt {b n s i : Nat} (hb : 0 < b) : dg b n s i < b := Nat.mod_lt _ hb
theorem dg_cd {b : Nat} {p : Nat → Nat} {n : Nat} (hb : 0 < b) (hp : ∀ i, i < n → p i < b) : ∀ i, i < n → dg b n (cd b p n) i = p i := fun i hi =>
  cd_inj (fun j _ => dg_lt hb) hp (cd_dg hb (cd_lt hp)) i hi
/-- in ints -/
theorem cd_nI {b n : Nat} {p q : Nat → Nat} {i : Nat} (hq : ∀ j, j ≠ i → q j = p j) (hi : i < n) : nI (cd b p n) + (nI (q i) - nI (p i)) * nI (b ^ (n - 1 - i)) = nI (cd b q n) := by
  have e := congrArg nI (cd_up (b := b) hq hi)
  rw [← nI_add, ← nI_add, ← pk_mul, ← pk_mul] at e
  rw [Int32.sub_mul, Int32.sub_eq_add_neg, ← Int32.add_assoc, ← e, Int32.add_assoc, Int32.add_right_neg, Int32.add_zero]
