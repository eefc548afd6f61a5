/-! ===== constructors ===== -/
/-- as Adx, but for one object -/
def Adw (a0 : Nat) (d e : Ad) : Prop := aX d ≤ aX e ∧ (∀ a, a ≠ a0 → aK d a ≠ (9, 0, 0) → aK e a = aK d a) ∧ (∀ a c k, a ≠ a0 → aK d a = (0, c, 0) → aP e c k a = aP d c k a) ∧ (∀ a t, a ≠ a0 → aK d a = (2, t, 0) → aN e a = aN d a) ∧ (∀ a c k, a ≠ a0 → aK d a = (3, c, k) → aF e a = aF d a) ∧ aL e = aL d ∧ aT e = aT d ∧ (∀ a t, a ≠ a0 → aK d a = (4, t, 0) → aN e a = aN d a)
theorem Adw.of {a0 : Nat} {d e : Ad} (h : Adx d e) : Adw a0 d e := ⟨h.1, fun a _ => h.2.1 a, fun a c k _ => h.2.2.1 a c k, fun a t _ => h.2.2.2.1 a t, fun a c k _ => h.2.2.2.2.1 a c k, h.2.2.2.2.2.1, h.2.2.2.2.2.2.1, fun a t _ => h.2.2.2.2.2.2.2 a t⟩
theorem Adw.trans {a0 : Nat} {d e f : Ad} (h1 : Adw a0 d e) (h2 : Adw a0 e f) : Adw a0 d f := by
  have kk : ∀ {a : Nat} {y : Nat × Nat × Nat}, a ≠ a0 → aK d a = y → y.1 ≠ 9 → aK e a = y := fun {a y} g e1 e2 => (h1.2.1 a g (by rw [e1]; intro q; subst q; exact e2 rfl)).trans e1
  refine ⟨Nat.le_trans h1.1 h2.1, fun a g ha => ?_, fun a c k g ha => ?_, fun a t g ha => ?_, fun a c k g ha => ?_, h2.2.2.2.2.2.1.trans h1.2.2.2.2.2.1, h2.2.2.2.2.2.2.1.trans h1.2.2.2.2.2.2.1, fun a t g ha => ?_⟩
  · have q := h1.2.1 a g ha
    rw [h2.2.1 a g (by rw [q]; exact ha), q]
  · rw [h2.2.2.1 a c k g (kk g ha (show (0 : Nat) ≠ 9 by decide)), h1.2.2.1 a c k g ha]
  · rw [h2.2.2.2.1 a t g (kk g ha (show (2 : Nat) ≠ 9 by decide)), h1.2.2.2.1 a t g ha]
  · rw [h2.2.2.2.2.1 a c k g (kk g ha (show (3 : Nat) ≠ 9 by decide)), h1.2.2.2.2.1 a c k g ha]
  · rw [h2.2.2.2.2.2.2.2 a t g (kk g ha (show (4 : Nat) ≠ 9 by decide)), h1.2.2.2.2.2.2.2 a t g ha]
theorem adf_w (d : Ad) (a0 : Nat) (fs : List Value) : Adw a0 d (adf d a0 fs) := ⟨Nat.le_refl _, fun _ _ _ => rfl, fun _ _ _ _ _ => rfl, fun _ _ _ _ => rfl, fun a c k g _ => by show va_up (aF d) a0 fs a = _; unfold va_up; rw [if_neg g], rfl, rfl, fun _ _ _ _ => rfl⟩
theorem adf_F (d : Ad) (a0 : Nat) (fs : List Value) : aF (adf d a0 fs) a0 = fs := by show va_up (aF d) a0 fs a0 = _; unfold va_up; rw [if_pos rfl]
theorem own_w {w : Wd} {d e : Ad} {h : UH} {a0 c X : Nat} {l : List (Option Nat)} (hW : HW w d h) (hX : aX d ≤ X) (h1 : Adw a0 d e) : Adw a0 d (own e c a0 X l) := by
  have nn : ∀ {a : Nat} {y : Nat × Nat × Nat}, aK d a = y → y.1 ≠ 9 → ownS X l a = none := fun {a y} e1 e2 => by
    have : a < X := by
      refine Classical.byContradiction fun q => ?_
      rw [hW.2.2.2.2.2.2.1 a (by omega)] at e1; subst e1; exact e2 rfl
    unfold ownS; rw [if_neg (by omega)]
  refine ⟨h1.1, fun a g ha => ?_, fun a c' k g ha => ?_, h1.2.2.2.1, h1.2.2.2.2.1, h1.2.2.2.2.2.1, h1.2.2.2.2.2.2.1, h1.2.2.2.2.2.2.2⟩
  · have : ownS X l a = none := by
      have : a < X := by
        refine Classical.byContradiction fun q => ?_
        exact ha (hW.2.2.2.2.2.2.1 a (by omega))
      unfold ownS; rw [if_neg (by omega)]
    rw [own_K, if_neg g, this]
    exact h1.2.1 a g ha
  · rw [own_P, if_neg g]; exact h1.2.2.1 a c' k g ha
theorem Adw.new {w : Wd} {d e : Ad} {h : UH} {c : Nat} (hW : HW w d h) (h1 : Adw (aX d) (adr d c) e) : Adx d e := by
  have hne : ∀ {a : Nat} {y : Nat × Nat × Nat}, aK d a = y → y.1 ≠ 9 → a ≠ aX d := fun {a y} e1 e2 q => by
    subst q; rw [hW.2.2.2.2.2.2.1 _ (Nat.le_refl _)] at e1; subst e1; exact e2 rfl
  have hx := adr_x hW c
  have z9 : ∀ a, aK d a ≠ (9, 0, 0) → a ≠ aX d := fun a ha q => by subst q; exact ha (hW.2.2.2.2.2.2.1 _ (Nat.le_refl _))
  refine ⟨Nat.le_trans hx.1 h1.1, fun a ha => ?_, fun a c k ha => ?_, fun a t ha => ?_, fun a c k ha => ?_, h1.2.2.2.2.2.1.trans hx.2.2.2.2.2.1, h1.2.2.2.2.2.2.1.trans hx.2.2.2.2.2.2.1, fun a t ha => ?_⟩
  · have q := hx.2.1 a ha
    rw [h1.2.1 a (z9 a ha) (by rw [q]; exact ha), q]
  · rw [h1.2.2.1 a c k (hne ha (show (0 : Nat) ≠ 9 by decide)) (hx.o ha), hx.2.2.1 a c k ha]
  · rw [h1.2.2.2.1 a t (hne ha (show (2 : Nat) ≠ 9 by decide)) (hx.f ha), hx.2.2.2.1 a t ha]
  · rw [h1.2.2.2.2.1 a c k (hne ha (show (3 : Nat) ≠ 9 by decide)) (hx.w ha).1, (hx.w ha).2]
  · rw [h1.2.2.2.2.2.2.2 a t (hne ha (show (4 : Nat) ≠ 9 by decide)) (hx.z ha), hx.2.2.2.2.2.2.2 a t ha]
/-- the list names every array of the class once -/
def ownC (c : Nat) (l : List (Option Nat)) : Bool := ((List.range l.length).all fun i => match l[i]? with | some (some k) => decide (k < nsl c) && (l.idxOf (some k) == i) && ((sd c k).1 == 3) | _ => true) && ((List.range (nsl c)).all fun k => (sd c k).1 != 3 || decide (l.idxOf (some k) < l.length))
theorem ownC1 {c : Nat} {l : List (Option Nat)} (h : ownC c l = true) (i k : Nat) (e : l[i]? = some (some k)) : k < nsl c ∧ l.idxOf (some k) = i ∧ (sd c k).1 = 3 := by
  unfold ownC at h
  rw [Bool.and_eq_true] at h
  have hi : i < l.length := (List.getElem?_eq_some_iff.mp e).1
  have := List.all_eq_true.mp h.1 i (List.mem_range.mpr hi)
  rw [e] at this
  simp only [Bool.and_eq_true, decide_eq_true_eq, beq_iff_eq] at this
  exact ⟨this.1.1, this.1.2, this.2⟩
theorem ownC2 {c : Nat} {l : List (Option Nat)} (h : ownC c l = true) (k : Nat) (hk : k < nsl c) (e : (sd c k).1 = 3) : l[l.idxOf (some k)]? = some (some k) := by
  unfold ownC at h
  rw [Bool.and_eq_true] at h
  have := List.all_eq_true.mp h.2 k (List.mem_range.mpr hk)
  simp only [Bool.or_eq_true, bne_iff_ne, ne_eq, decide_eq_true_eq] at this
  rcases this with g | g
  · exact absurd e g
  · rw [List.getElem?_eq_getElem g, List.getElem_idxOf g]
theorem hw_own2 {w : Wd} {d : Ad} {h : UH} (hW : HW w d h) {c a X : Nat} {l : List (Option Nat)} {x : Cl} (hc : c < 13) (hk : aK d a = (3, c, 0)) (hl : ownC c l = true)
    (ht : ∀ i k, l[i]? = some (some k) → aK d (X + i) = (4, (sd c k).2.1, 0) ∧ aN d (X + i) = (sd c k).2.2)
    (hx : ∀ k b, b ≠ a → cI x k b = cI (wg c w) k b ∧ cJ x k b = cJ (wg c w) k b ∧ cR x k b = cR (wg c w) k b ∧ cA x k b = cA (wg c w) k b ∧ cB x k b = cB (wg c w) k b ∧ cQ x k b = cQ (wg c w) k b)
    (hz : ∀ k, cA x k a = (fun _ => 0) ∧ cB x k a = (fun _ => 0) ∧ cQ x k a = fun _ => none)
    (hf : aF d a = flds (ws c w x) (own d c a X l) c a) (hw : ∀ k, k < nsl c → (sd c k).1 ≠ 3 → wfs (ws c w x) (own d c a X l) c k a) : HW (ws c w x) (own d c a X l) h := by
  refine hw_own1 hW hc hk (fun i k e => ⟨(ownC1 hl i k e).1, (ownC1 hl i k e).2.1⟩) ht hx hz hf (fun k hn => ?_)
  by_cases h3 : (sd c k).1 = 3
  · have e := ownC2 hl k hn h3
    have hne : X + l.idxOf (some k) ≠ a := fun q => by
      have := (ht _ k e).1; rw [q, hk] at this; cases this
    unfold wfs
    split
    · rename_i g; rw [g] at h3; cases h3
    · refine ⟨?_, ?_, fun _ j q hq => ?_⟩
      · rw [own_P, if_pos rfl, own_K, if_neg hne, ownS_i e]
      · rw [own_P, if_pos rfl, own_O, ownS_i e]
      · rw [wg_ws w x (by omega), (hz k).2.2] at hq; cases hq
    · rename_i g; rw [g] at h3; cases h3
    · rename_i g; rw [g] at h3; cases h3
    · trivial
  · exact hw k hn h3
theorem en_nzA {call : Nat → List Value → UH → UR → Prop} {code : Nat → Option UI} {pc : Nat} {L : List (Option Value)} {r : List Value} {h : UH} {res : UR → Prop} {w : Wd} {d : Ad} {n : Int32} {ty} {t N a0 c j B : Nat} {fs : List Value} (hc : code pc = some (.newarray ty, [t])) (hW : HW w d h) (hn : ¬ (n < 0 ∨ ¬ n.toNatClampNeg ≤ 1000000)) (hN : n.toNatClampNeg = N) (hz : u_zero t N = some (arrc zcl t N 0 0)) (hX : aX d = B + j) (hf : aF d a0 = fs) (ha : aK d a0 = (3, c, 0)) (kk : ∀ (h' : UH) (e : Ad), e = adz d t N → HW w e h' → Adx d e → aK e (B + j) = (4, t, 0) → aN e (B + j) = N → aX e = B + (j + 1) → aF e a0 = fs → aK e a0 = (3, c, 0) → Ends call code (pc + 2, L, .ref (B + j) :: r, h') res) : Ends call code (pc, L, .int n :: r, h) res := by
  refine en_nz hc hW hn hN hz (fun h' g1 g2 g3 g4 => ?_)
  rw [hX] at g3 g4 ⊢
  exact kk h' _ rfl g1 g2 g3 g4 (by show aX d + 1 = _; rw [hX]; rfl) hf (g2.w ha).1
theorem en_putA {call : Nat → List Value → UH → UR → Prop} {code : Nat → Option UI} {pc : Nat} {L : List (Option Value)} {r : List Value} {h : UH} {res : UR → Prop} {w : Wd} {d : Ad} {x a c k t A : Nat} {v : Value} {fs fs' : List Value} (hc : code pc = some (.putfield x, [c, k, t])) (hW : HW w d h) (hk : aK d a = (3, c, 0)) (hf : aF d a = fs) (hl : k < fs.length) (hv : u_fit t v = true) (hs : fs.set k v = fs') (hX : aX d = A) (kk : ∀ (h' : UH) (e : Ad), e = adf d a fs' → HW w e h' → (∀ b, aK e b = aK d b) → aN e = aN d → aX e = A → aF e a = fs' → aK e a = (3, c, 0) → Adw a d e → Ends call code (pc + 3, L, r, h') res) : Ends call code (pc, L, v :: .ref a :: r, h) res := by
  subst hf
  refine en_putr hc hW hk hl hv (fun h' g => ?_)
  rw [hs] at g
  exact kk h' _ rfl g (fun _ => rfl) rfl hX (adf_F d a fs') hk (adf_w d a fs')
theorem en_nfI {call : Nat → List Value → UH → UR → Prop} {code : Nat → Option UI} {pc : Nat} {L : List (Option Value)} {r : List Value} {h : UH} {res : UR → Prop} {w : Wd} {d : Ad} {n : Int32} {N a0 c j B : Nat} {fs : List Value} (hc : code pc = some (.newarray .int, [1])) (hW : HW w d h) (hn : ¬ (n < 0 ∨ ¬ n.toNatClampNeg ≤ 1000000)) (hN : n.toNatClampNeg = N) (hX : aX d = B + j) (hf : aF d a0 = fs) (ha : aK d a0 = (3, c, 0)) (kk : ∀ (h' : UH) (e : Ad), e = adn d 1 N → HW (ws 13 w (sA (wg 13 w) 0 (B + j) (fun _ => 0))) e h' → Adx d e → aK e (B + j) = (2, 1, 0) → aN e (B + j) = N → aX e = B + (j + 1) → aF e a0 = fs → aK e a0 = (3, c, 0) → Ends call code (pc + 2, L, .ref (B + j) :: r, h') res) : Ends call code (pc, L, .int n :: r, h) res := by
  subst hN
  refine en_newI (z := (sA (wg 13 w) 0 (aX d) (fun _ => 0), adn d 1 n.toNatClampNeg)) hc hW (by unfold nwI; rw [if_neg hn]) (fun h' g1 g2 g3 => ?_)
  have g4 : aN (adn d 1 n.toNatClampNeg) (aX d) = n.toNatClampNeg := by show va_up (aN d) (aX d) _ (aX d) = _; unfold va_up; rw [if_pos rfl]
  rw [hX] at g1 g3 g4 ⊢
  exact kk h' _ rfl g1 g2 g3 g4 (by show aX d + 1 = _; rw [hX]; rfl) hf (g2.w ha).1
theorem en_nfL {call : Nat → List Value → UH → UR → Prop} {code : Nat → Option UI} {pc : Nat} {L : List (Option Value)} {r : List Value} {h : UH} {res : UR → Prop} {w : Wd} {d : Ad} {n : Int32} {N a0 c j B : Nat} {fs : List Value} (hc : code pc = some (.newarray .long, [2])) (hW : HW w d h) (hn : ¬ (n < 0 ∨ ¬ n.toNatClampNeg ≤ 1000000)) (hN : n.toNatClampNeg = N) (hX : aX d = B + j) (hf : aF d a0 = fs) (ha : aK d a0 = (3, c, 0)) (kk : ∀ (h' : UH) (e : Ad), e = adn d 2 N → HW (ws 13 w (sB (wg 13 w) 0 (B + j) (fun _ => 0))) e h' → Adx d e → aK e (B + j) = (2, 2, 0) → aN e (B + j) = N → aX e = B + (j + 1) → aF e a0 = fs → aK e a0 = (3, c, 0) → Ends call code (pc + 2, L, .ref (B + j) :: r, h') res) : Ends call code (pc, L, .int n :: r, h) res := by
  subst hN
  refine en_newL (z := (sB (wg 13 w) 0 (aX d) (fun _ => 0), adn d 2 n.toNatClampNeg)) hc hW (by unfold nwL; rw [if_neg hn]) (fun h' g1 g2 g3 => ?_)
  have g4 : aN (adn d 2 n.toNatClampNeg) (aX d) = n.toNatClampNeg := by show va_up (aN d) (aX d) _ (aX d) = _; unfold va_up; rw [if_pos rfl]
  rw [hX] at g1 g3 g4 ⊢
  exact kk h' _ rfl g1 g2 g3 g4 (by show aX d + 1 = _; rw [hX]; rfl) hf (g2.w ha).1
theorem ownS_o {X i : Nat} {l : List (Option Nat)} (e : l[i]? = some none) : ownS X l (X + i) = none := by
  unfold ownS; rw [if_pos (Nat.le_add_right _ _), Nat.add_sub_cancel_left, e]; rfl
theorem own_f {e : Ad} {c a0 X i t : Nat} {l : List (Option Nat)} (hk : aK e (X + i) = (2, t, 0)) (ha : aK e a0 = (3, c, 0)) (hl : l[i]? = some none) : aK (own e c a0 X l) (X + i) = (2, t, 0) := by
  rw [own_K, if_neg (fun q => by rw [q, ha] at hk; cases hk), ownS_o hl]; exact hk
