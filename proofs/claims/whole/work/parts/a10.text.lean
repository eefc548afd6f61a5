/-! ===== texts: bytes, runs of bytes, pieces ===== -/
def bI (n : Nat) : Int32 := if n < 128 then nI n else nI n - 256
theorem bI_255 : ∀ n, n < 256 → bI n &&& 255 = nI n := by decide +kernel
theorem bI_p {n : Nat} (h : n < 128) : bI n = nI n := if_pos h
theorem bI_n : ∀ n, n < 256 → 128 ≤ n → bI n < 0 := by decide +kernel
theorem bI_ub : ∀ n, n < 256 → bI n ≤ 127 := by decide +kernel
theorem bI_eq {n c : Nat} (hn : n < 256) (hc : c < 128) : bI n = nI c ↔ n = c := by
  by_cases w : n < 128
  · rw [bI_p w]; exact nI_eq (by omega) (by omega)
  · constructor
    · intro z
      have := bI_n n hn (by omega)
      rw [z] at this
      exact absurd this (nI_pos (by omega))
    · intro z; omega
theorem bI_lt {n c : Nat} (hn : n < 256) (hc : c < 128) : bI n < nI c ↔ (n < c ∨ 128 ≤ n) := by
  by_cases w : n < 128
  · rw [bI_p w, nI_ltI (by omega) (by omega)]; omega
  · have h0 := bI_n n hn (by omega)
    refine ⟨fun _ => Or.inr (by omega), fun _ => ?_⟩
    exact Int32.lt_of_lt_of_le h0 (nI_pos' (by omega))
theorem bI_gt {n c : Nat} (hn : n < 256) (hc : c < 128) : nI c < bI n ↔ (c < n ∧ n < 128) := by
  by_cases w : n < 128
  · rw [bI_p w, nI_ltI (by omega) (by omega)]; omega
  · have h0 := bI_n n hn (by omega)
    refine ⟨fun z => ?_, fun z => by omega⟩
    exact absurd (Int32.lt_trans z h0) (nI_pos (by omega))
/-- a run of bytes -/
def rnf (f : Nat → Bool) : Nat → Nat → Nat
  | 0, k => k
  | m + 1, k => if f k = true then rnf f m (k + 1) else k
def rr (f : Nat → Bool) (l k : Nat) : Nat := rnf f (l - k) k
theorem rr_s {f : Nat → Bool} {l k : Nat} (h : k < l) (hf : f k = true) : rr f l k = rr f l (k + 1) := by
  unfold rr
  rw [show l - k = (l - (k + 1)) + 1 by omega]
  show (if f k = true then _ else _) = _
  rw [if_pos hf]
theorem rr_e {f : Nat → Bool} {l k : Nat} (h : k < l → f k = false) : rr f l k = k := by
  unfold rr
  by_cases w : k < l
  · rw [show l - k = (l - (k + 1)) + 1 by omega]
    show (if f k = true then _ else _) = _
    rw [if_neg (by rw [h w]; exact Bool.noConfusion)]
  · rw [show l - k = 0 by omega]; rfl
theorem rr_all {f : Nat → Bool} {l : Nat} : ∀ (m k : Nat), l - k = m → k ≤ rr f l k ∧ (k ≤ l → rr f l k ≤ l) ∧ (∀ j, k ≤ j → j < rr f l k → f j = true) ∧ (rr f l k < l → f (rr f l k) = false)
  | 0, k, h => by
    rw [rr_e (fun z => by omega)]
    exact ⟨Nat.le_refl _, fun z => z, fun j a b => by omega, fun z => by omega⟩
  | m + 1, k, h => by
    by_cases w : f k = true
    · obtain ⟨h1, h2, h3, h4⟩ := rr_all (f := f) (l := l) m (k + 1) (by omega)
      rw [rr_s (by omega) w]
      refine ⟨by omega, fun _ => h2 (by omega), fun j j1 j2 => ?_, h4⟩
      by_cases z : j = k
      · rw [z]; exact w
      · exact h3 j (by omega) j2
    · have e := rr_e (f := f) (l := l) (k := k) (fun _ => by cases hf : f k; rfl; exact absurd hf w)
      rw [e]
      exact ⟨Nat.le_refl _, fun z => z, fun j a b => by omega, fun _ => by cases hf : f k; rfl; exact absurd hf w⟩
theorem rr_ge {f : Nat → Bool} {l k : Nat} : k ≤ rr f l k := (rr_all _ k rfl).1
theorem rr_le {f : Nat → Bool} {l k : Nat} (h : k ≤ l) : rr f l k ≤ l := (rr_all _ k rfl).2.1 h
theorem rr_in {f : Nat → Bool} {l k j : Nat} (h : k ≤ j) (h2 : j < rr f l k) : f j = true := (rr_all _ k rfl).2.2.1 j h h2
theorem rr_out {f : Nat → Bool} {l k : Nat} (h : rr f l k < l) : f (rr f l k) = false := (rr_all _ k rfl).2.2.2 h
theorem rr_rr {f : Nat → Bool} {l k : Nat} : rr f l (rr f l k) = rr f l k := rr_e fun h => rr_out h
def isD (b : Nat) : Bool := decide (48 ≤ b ∧ b ≤ 57)
def isL (b : Nat) : Bool := decide (97 ≤ b ∧ b ≤ 122)
theorem isD_t {b : Nat} : isD b = true ↔ (48 ≤ b ∧ b ≤ 57) := by unfold isD; exact decide_eq_true_iff
theorem isL_t {b : Nat} : isL b = true ↔ (97 ≤ b ∧ b ≤ 122) := by unfold isL; exact decide_eq_true_iff
theorem isD_f {b : Nat} : isD b = false ↔ ¬ (48 ≤ b ∧ b ≤ 57) := by unfold isD; exact decide_eq_false_iff_not
theorem isL_f {b : Nat} : isL b = false ↔ ¬ (97 ≤ b ∧ b ≤ 122) := by unfold isL; exact decide_eq_false_iff_not
/-- behind blanks, digits, letters -/
def sk (u : Nat → Nat) (l p : Nat) : Nat := rr (fun j => decide (u j = 32)) l p
def de (u : Nat → Nat) (l p : Nat) : Nat := rr (fun j => isD (u j)) l p
def le (u : Nat → Nat) (l p : Nat) : Nat := rr (fun j => isL (u j)) l p
theorem sk_le {u : Nat → Nat} {l p : Nat} (h : p ≤ l) : sk u l p ≤ l := rr_le h
theorem sk_ge {u : Nat → Nat} {l p : Nat} : p ≤ sk u l p := rr_ge
theorem sk_nb {u : Nat → Nat} {l p : Nat} (h : sk u l p < l) : u (sk u l p) ≠ 32 := of_decide_eq_false (rr_out (f := fun j => decide (u j = 32)) h)
theorem sk_sk {u : Nat → Nat} {l p : Nat} : sk u l (sk u l p) = sk u l p := rr_rr
theorem sk_id {u : Nat → Nat} {l p : Nat} (h : p < l → u p ≠ 32) : sk u l p = p := rr_e fun z => decide_eq_false (h z)
/-- words as numbers -/
def pkd (u : Nat → Nat) (p : Nat) : Nat → Nat
  | 0 => 0
  | n + 1 => pkd u p n * 256 + u (p + n)
theorem pkd_lt {u : Nat → Nat} {p : Nat} : ∀ {n : Nat}, (∀ i, i < n → u (p + i) < 256) → pkd u p n < 256 ^ n
  | 0, _ => by show 0 < 1; decide
  | n + 1, h => by
    have ih := pkd_lt (u := u) (p := p) (n := n) (fun i hi => h i (by omega))
    have := h n (by omega)
    show pkd u p n * 256 + u (p + n) < 256 ^ n * 256
    omega
theorem pkd_inj {u v : Nat → Nat} {p q : Nat} : ∀ {n m : Nat}, (∀ i, i < n → 1 ≤ u (p + i) ∧ u (p + i) < 256) → (∀ i, i < m → 1 ≤ v (q + i) ∧ v (q + i) < 256) → pkd u p n = pkd v q m → n = m ∧ ∀ i, i < n → u (p + i) = v (q + i)
  | 0, 0, _, _, _ => ⟨rfl, fun i h => absurd h (Nat.not_lt_zero _)⟩
  | 0, m + 1, _, h2, e => by
    have := h2 m (by omega)
    have e' : 0 = pkd v q m * 256 + v (q + m) := e
    omega
  | n + 1, 0, h1, _, e => by
    have := h1 n (by omega)
    have e' : pkd u p n * 256 + u (p + n) = 0 := e
    omega
  | n + 1, m + 1, h1, h2, e => by
    have e' : pkd u p n * 256 + u (p + n) = pkd v q m * 256 + v (q + m) := e
    have a := h1 n (by omega)
    have b := h2 m (by omega)
    obtain ⟨x, y⟩ := pkd_inj (u := u) (v := v) (p := p) (q := q) (n := n) (m := m) (fun i hi => h1 i (by omega)) (fun i hi => h2 i (by omega)) (by omega)
    subst x
    refine ⟨rfl, fun i hi => ?_⟩
    by_cases w : i = n
    · subst w; omega
    · exact y i (by omega)
theorem pkd_cg {u v : Nat → Nat} {p q : Nat} : ∀ {n : Nat}, (∀ i, i < n → u (p + i) = v (q + i)) → pkd u p n = pkd v q n
  | 0, _ => rfl
  | n + 1, h => by
    show pkd u p n * 256 + u (p + n) = pkd v q n * 256 + v (q + n)
    rw [pkd_cg (n := n) (fun i hi => h i (by omega)), h n (by omega)]
/-- the words, as numbers, in their order -/
def WL : List Nat := [1751474532, 114767640814963, 24948, 1752132965, 1667329381, 1751478885, 6710647, 427121669988, 465557353332, 7454131802490631028, 1735356005, 120299592184933, 491495845235, 1685024626, 431198331257, 1836020596, 495622976357, 119200079635826, 26479, 26982, 6385252, 28530, 7237492]
def wfd : List Nat → Nat → Nat → Nat
  | [], _, _ => 34
  | w :: ws, i, v => if v = w then i else wfd ws (i + 1) v
/-- a word's kind -/
def wk (u : Nat → Nat) (p n : Nat) : Nat := if n ≤ 8 then wfd WL 0 (pkd u p n) else 34
/-- the first digits' number -/
def dv (u : Nat → Nat) (p : Nat) : Nat → Nat
  | 0 => 0
  | n + 1 => dv u p n * 10 + (u (p + n) - 48)
def kd (u : Nat → Nat) (l p : Nat) : Nat :=
  if p < l then (if isD (u p) = true then (if de u l p - p ≤ 5 then 30 else 31)
    else if isL (u p) = true then wk u p (le u l p - p)
    else if (u p = 60 ∨ u p = 62) ∧ p + 1 < l ∧ u (p + 1) = 61 then (if u p = 60 then 32 else 33)
    else 100 + u p)
  else 35
def nxt (u : Nat → Nat) (l p : Nat) : Nat :=
  if isD (u p) = true then de u l p else if isL (u p) = true then le u l p
    else if (u p = 60 ∨ u p = 62) ∧ p + 1 < l ∧ u (p + 1) = 61 then p + 2 else p + 1
def nv (u : Nat → Nat) (l p : Nat) : Nat := if p < l ∧ isD (u p) = true then dv u p (min (de u l p - p) 5) else 0
theorem wfd_le : ∀ (ws : List Nat) (i v : Nat), wfd ws i v = 34 ∨ (i ≤ wfd ws i v ∧ wfd ws i v < i + ws.length)
  | [], _, _ => Or.inl rfl
  | w :: ws, i, v => by
    show (if v = w then i else wfd ws (i + 1) v) = 34 ∨ (i ≤ (if v = w then i else wfd ws (i + 1) v) ∧ (if v = w then i else wfd ws (i + 1) v) < i + (ws.length + 1))
    by_cases h : v = w
    · rw [if_pos h]; exact Or.inr ⟨Nat.le_refl _, by omega⟩
    · rw [if_neg h]
      rcases wfd_le ws (i + 1) v with e | e
      · exact Or.inl e
      · exact Or.inr (by omega)
theorem wk_lt {u : Nat → Nat} {p n : Nat} : wk u p n < 23 ∨ wk u p n = 34 := by
  unfold wk
  split
  · rcases wfd_le WL 0 (pkd u p n) with e | e
    · exact Or.inr e
    · have : WL.length = 23 := rfl
      exact Or.inl (by omega)
  · exact Or.inr rfl
theorem dv_lt {u : Nat → Nat} {p : Nat} : ∀ {n : Nat}, (∀ i, i < n → isD (u (p + i)) = true) → dv u p n < 10 ^ n
  | 0, _ => by show 0 < 1; decide
  | n + 1, h => by
    have ih := dv_lt (u := u) (p := p) (n := n) (fun i hi => h i (by omega))
    have := isD_t.mp (h n (by omega))
    show dv u p n * 10 + (u (p + n) - 48) < 10 ^ n * 10
    omega
theorem nv_lt {u : Nat → Nat} {l p : Nat} : nv u l p ≤ 99999 := by
  unfold nv
  split
  · rename_i h
    have hh := dv_lt (u := u) (p := p) (n := min (de u l p - p) 5) (fun i hi => rr_in (f := fun j => isD (u j)) (l := l) (k := p) (by omega) (by
      have : i < de u l p - p := by omega
      unfold de at this
      omega))
    have := Nat.pow_le_pow_right (n := 10) (by decide) (show min (de u l p - p) 5 ≤ 5 by omega)
    have e : (10 : Nat) ^ 5 = 100000 := rfl
    omega
  · omega
theorem nxt_gt {u : Nat → Nat} {l p : Nat} (h : p < l) : p < nxt u l p := by
  unfold nxt
  split
  · rename_i w
    have := rr_s (f := fun j => isD (u j)) h w
    have g := rr_ge (f := fun j => isD (u j)) (l := l) (k := p + 1)
    show p < rr (fun j => isD (u j)) l p
    rw [this]; omega
  · split
    · rename_i w
      have := rr_s (f := fun j => isL (u j)) h w
      have g := rr_ge (f := fun j => isL (u j)) (l := l) (k := p + 1)
      show p < rr (fun j => isL (u j)) l p
      rw [this]; omega
    · split <;> omega
theorem nxt_le {u : Nat → Nat} {l p : Nat} (h : p < l) : nxt u l p ≤ l := by
  unfold nxt
  split
  · exact rr_le (by omega)
  · split
    · exact rr_le (by omega)
    · split <;> omega
