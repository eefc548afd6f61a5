/-! ===== runs of functions with what holds behind them; frames ===== -/
def Rn {α : Type} (x : Option α) (P : α → Prop) : Prop := ∃ v, x = some v ∧ P v
theorem rn_r {α : Type} {v : α} {P : α → Prop} (h : P v) : Rn (some v) P := ⟨v, rfl, h⟩
theorem rn_b {α β : Type} {x : Option α} {f : α → Option β} {P : α → Prop} {Q : β → Prop} (h : Rn x P) (k : ∀ v, P v → Rn (f v) Q) : Rn (x >>= f) Q := by
  obtain ⟨v, rfl, hv⟩ := h; exact k v hv
theorem rn_e {α β : Type} {x : Option α} {f : α → Option β} {v : α} {Q : β → Prop} (h : x = some v) (k : Rn (f v) Q) : Rn (x >>= f) Q := by subst h; exact k
theorem rn_p {α : Type} {c : Prop} [Decidable c] {a b : Option α} {Q : α → Prop} (hc : c) (h : Rn a Q) : Rn (if c then a else b) Q := by rw [if_pos hc]; exact h
theorem rn_n {α : Type} {c : Prop} [Decidable c] {a b : Option α} {Q : α → Prop} (hc : ¬ c) (h : Rn b Q) : Rn (if c then a else b) Q := by rw [if_neg hc]; exact h
theorem rn_i {α : Type} {c : Prop} [Decidable c] {a b : Option α} {Q : α → Prop} (h1 : c → Rn a Q) (h2 : ¬ c → Rn b Q) : Rn (if c then a else b) Q := by
  by_cases hc : c
  · exact rn_p hc (h1 hc)
  · exact rn_n hc (h2 hc)
theorem rn_m {α : Type} {x : Option α} {P Q : α → Prop} (h : Rn x P) (k : ∀ v, P v → Q v) : Rn x Q := by
  obtain ⟨v, e, hv⟩ := h; exact ⟨v, e, k v hv⟩
theorem rn_q {α : Type} {x : Option α} {v : α} {P : α → Prop} (h : x = some v) (k : P v) : Rn x P := ⟨v, h, k⟩
theorem rn_ld {β : Type} {f : Nat → Int32} {n i : Nat} {g : Int32 → Option β} {Q : β → Prop} (h : i < n) (hn : n < 2 ^ 31) (k : Rn (g (f i)) Q) : Rn (ald f n (nI i) >>= g) Q := rn_e (ald_ok h hn) k
theorem rn_st {β : Type} {c : Cl} {k0 a n i : Nat} {x : Int32} {g : Cl → Option β} {Q : β → Prop} (h : i < n) (hn : n < 2 ^ 31) (k : Rn (g (sA c k0 a (upd (cA c k0 a) i x))) Q) : Rn (ast c k0 a n (nI i) x >>= g) Q := rn_e (ast_ok h hn) k
theorem rn_s {α β : Type} {v : α} {f : α → Option β} {Q : β → Prop} (k : Rn (f v) Q) : Rn (some v >>= f) Q := k
theorem ldq_ok {f : Nat → Option Nat} {n i : Nat} (h : i < n) (hn : n < 2 ^ 31) : ldq f n (nI i) = some (f i) := by
  unfold ldq; rw [if_neg (nI_in h hn), nI_clamp (by omega)]
/-- all objects but one are as they were -/
def Oth (st : Nat) (c c' : Cl) : Prop := ∀ k a, a ≠ st → cI c' k a = cI c k a ∧ cJ c' k a = cJ c k a ∧ cR c' k a = cR c k a ∧ cA c' k a = cA c k a ∧ cB c' k a = cB c k a ∧ cQ c' k a = cQ c k a
theorem oth_rf (st : Nat) (c : Cl) : Oth st c c := fun _ _ _ => ⟨rfl, rfl, rfl, rfl, rfl, rfl⟩
theorem oth_tr {st : Nat} {c c' c'' : Cl} (h : Oth st c c') (h' : Oth st c' c'') : Oth st c c'' := fun k a n => by
  obtain ⟨a1, a2, a3, a4, a5, a6⟩ := h k a n
  obtain ⟨b1, b2, b3, b4, b5, b6⟩ := h' k a n
  exact ⟨b1.trans a1, b2.trans a2, b3.trans a3, b4.trans a4, b5.trans a5, b6.trans a6⟩
theorem oth_I {st : Nat} {c : Cl} {k : Nat} {v : Int32} : Oth st c (sI c k st v) := fun _ _ n => ⟨by rw [cI_sI, if_neg (fun z => n z.2)], rfl, rfl, rfl, rfl, rfl⟩
theorem oth_J {st : Nat} {c : Cl} {k : Nat} {v : Int64} : Oth st c (sJ c k st v) := fun _ _ n => ⟨rfl, by rw [cJ_sJ, if_neg (fun z => n z.2)], rfl, rfl, rfl, rfl⟩
theorem oth_R {st : Nat} {c : Cl} {k : Nat} {v : Nat} : Oth st c (sR c k st v) := fun _ _ n => ⟨rfl, rfl, by rw [cR_sR, if_neg (fun z => n z.2)], rfl, rfl, rfl⟩
theorem oth_A {st : Nat} {c : Cl} {k : Nat} {v : Nat → Int32} : Oth st c (sA c k st v) := fun _ _ n => ⟨rfl, rfl, rfl, by rw [cA_sA, if_neg (fun z => n z.2)], rfl, rfl⟩
theorem oth_B {st : Nat} {c : Cl} {k : Nat} {v : Nat → Int64} : Oth st c (sB c k st v) := fun _ _ n => ⟨rfl, rfl, rfl, rfl, by rw [cB_sB, if_neg (fun z => n z.2)], rfl⟩
theorem oth_Q {st : Nat} {c : Cl} {k : Nat} {v : Nat → Option Nat} : Oth st c (sQ c k st v) := fun _ _ n => ⟨rfl, rfl, rfl, rfl, rfl, by rw [cQ_sQ, if_neg (fun z => n z.2)]⟩
/-- all slots but some are as they were -/
def Kp (K : List Nat) (c c' : Cl) : Prop := ∀ k, k ∉ K → cI c' k = cI c k ∧ cJ c' k = cJ c k ∧ cR c' k = cR c k ∧ cA c' k = cA c k ∧ cB c' k = cB c k ∧ cQ c' k = cQ c k
theorem kp_rf (K : List Nat) (c : Cl) : Kp K c c := fun _ _ => ⟨rfl, rfl, rfl, rfl, rfl, rfl⟩
theorem kp_tr {K : List Nat} {c c' c'' : Cl} (h : Kp K c c') (h' : Kp K c' c'') : Kp K c c'' := fun k n => by
  obtain ⟨a1, a2, a3, a4, a5, a6⟩ := h k n
  obtain ⟨b1, b2, b3, b4, b5, b6⟩ := h' k n
  exact ⟨b1.trans a1, b2.trans a2, b3.trans a3, b4.trans a4, b5.trans a5, b6.trans a6⟩
theorem kp_wd {K K' : List Nat} {c c' : Cl} (h : Kp K c c') (hk : ∀ k, k ∈ K → k ∈ K') : Kp K' c c' := fun k n => h k (fun z => n (hk k z))
theorem kp_I {K : List Nat} {c : Cl} {k a : Nat} {v : Int32} (h : k ∈ K) : Kp K c (sI c k a v) := fun j n => ⟨by funext b; rw [cI_sI, if_neg (fun (z : j = k ∧ b = a) => n (by rw [z.1]; exact h))], rfl, rfl, rfl, rfl, rfl⟩
theorem kp_J {K : List Nat} {c : Cl} {k a : Nat} {v : Int64} (h : k ∈ K) : Kp K c (sJ c k a v) := fun j n => ⟨rfl, by funext b; rw [cJ_sJ, if_neg (fun (z : j = k ∧ b = a) => n (by rw [z.1]; exact h))], rfl, rfl, rfl, rfl⟩
theorem kp_R {K : List Nat} {c : Cl} {k a : Nat} {v : Nat} (h : k ∈ K) : Kp K c (sR c k a v) := fun j n => ⟨rfl, rfl, by funext b; rw [cR_sR, if_neg (fun (z : j = k ∧ b = a) => n (by rw [z.1]; exact h))], rfl, rfl, rfl⟩
theorem kp_A {K : List Nat} {c : Cl} {k a : Nat} {v : Nat → Int32} (h : k ∈ K) : Kp K c (sA c k a v) := fun j n => ⟨rfl, rfl, rfl, by funext b; rw [cA_sA, if_neg (fun (z : j = k ∧ b = a) => n (by rw [z.1]; exact h))], rfl, rfl⟩
theorem kp_B {K : List Nat} {c : Cl} {k a : Nat} {v : Nat → Int64} (h : k ∈ K) : Kp K c (sB c k a v) := fun j n => ⟨rfl, rfl, rfl, rfl, by funext b; rw [cB_sB, if_neg (fun (z : j = k ∧ b = a) => n (by rw [z.1]; exact h))], rfl⟩
theorem kp_Q {K : List Nat} {c : Cl} {k a : Nat} {v : Nat → Option Nat} (h : k ∈ K) : Kp K c (sQ c k a v) := fun j n => ⟨rfl, rfl, rfl, rfl, rfl, by funext b; rw [cQ_sQ, if_neg (fun (z : j = k ∧ b = a) => n (by rw [z.1]; exact h))]⟩
theorem upd_c {f : Nat → Int32} {i j : Nat} {x y : Int32} (h : i ≠ j) : upd (upd f i x) j y = upd (upd f j y) i x := by
  funext k; unfold upd
  by_cases q : k = j
  · subst q; rw [if_pos rfl, if_neg (Ne.symm h), if_pos rfl]
  · rw [if_neg q]
    by_cases q2 : k = i
    · rw [if_pos q2, if_pos q2]
    · rw [if_neg q2, if_neg q2, if_neg q]
