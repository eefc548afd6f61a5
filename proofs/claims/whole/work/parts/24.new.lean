/-! ===== rows: objects that are made in between ===== -/
theorem Adw.o {a0 a c k c0 k0 : Nat} {d e : Ad} (h : Adw a0 d e) (h0 : aK d a0 = (3, c0, k0)) (ha : aK d a = (0, c, k)) : aK e a = (0, c, k) := by
  rw [h.2.1 a (fun q => by rw [q, h0] at ha; cases ha) (by rw [ha]; exact fun q => by cases q)]; exact ha
theorem Adw.f {a0 a c k c0 k0 : Nat} {d e : Ad} (h : Adw a0 d e) (h0 : aK d a0 = (3, c0, k0)) (ha : aK d a = (2, c, k)) : aK e a = (2, c, k) := by
  rw [h.2.1 a (fun q => by rw [q, h0] at ha; cases ha) (by rw [ha]; exact fun q => by cases q)]; exact ha
theorem Adw.z {a0 a c k c0 k0 : Nat} {d e : Ad} (h : Adw a0 d e) (h0 : aK d a0 = (3, c0, k0)) (ha : aK d a = (4, c, k)) : aK e a = (4, c, k) := by
  rw [h.2.1 a (fun q => by rw [q, h0] at ha; cases ha) (by rw [ha]; exact fun q => by cases q)]; exact ha
theorem Adw.w {a0 a c k : Nat} {d e : Ad} (h : Adw a0 d e) (hn : a ≠ a0) (ha : aK d a = (3, c, k)) : aK e a = (3, c, k) ∧ aF e a = aF d a := by
  refine ⟨?_, h.2.2.2.2.1 a c k hn ha⟩
  rw [h.2.1 a hn (by rw [ha]; exact fun q => by cases q)]; exact ha
theorem Adw.adx {w : Wd} {d e f : Ad} {h : UH} (hW : HW w d h) (hx : Adx d e) (h1 : Adw (aX d) e f) : Adx d f := by
  have hne : ∀ {a : Nat} {y : Nat × Nat × Nat}, aK d a = y → y.1 ≠ 9 → a ≠ aX d := fun {a y} e1 e2 q => by
    subst q; rw [hW.2.2.2.2.2.2.1 _ (Nat.le_refl _)] at e1; subst e1; exact e2 rfl
  have z9 : ∀ a, aK d a ≠ (9, 0, 0) → a ≠ aX d := fun a ha q => by subst q; exact ha (hW.2.2.2.2.2.2.1 _ (Nat.le_refl _))
  refine ⟨Nat.le_trans hx.1 h1.1, fun a ha => ?_, fun a c k ha => ?_, fun a t ha => ?_, fun a c k ha => ?_, h1.2.2.2.2.2.1.trans hx.2.2.2.2.2.1, h1.2.2.2.2.2.2.1.trans hx.2.2.2.2.2.2.1, fun a t ha => ?_⟩
  · have q := hx.2.1 a ha
    rw [h1.2.1 a (z9 a ha) (by rw [q]; exact ha), q]
  · rw [h1.2.2.1 a c k (hne ha (show (0 : Nat) ≠ 9 by decide)) (hx.o ha), hx.2.2.1 a c k ha]
  · rw [h1.2.2.2.1 a t (hne ha (show (2 : Nat) ≠ 9 by decide)) (hx.f ha), hx.2.2.2.1 a t ha]
  · rw [h1.2.2.2.2.1 a c k (hne ha (show (3 : Nat) ≠ 9 by decide)) (hx.w ha).1, (hx.w ha).2]
  · rw [h1.2.2.2.2.2.2.2 a t (hne ha (show (4 : Nat) ≠ 9 by decide)) (hx.z ha), hx.2.2.2.2.2.2.2 a t ha]
theorem adr_F (d : Ad) (c : Nat) : aF (adr d c) (aX d) = u_def c := by show va_up (aF d) (aX d) (u_def c) (aX d) = _; unfold va_up; rw [if_pos rfl]
section Rows9
variable {call : Nat → List Value → UH → UR → Prop} {code : Nat → Option UI} {pc : Nat} {L : List (Option Value)} {r st : List Value} {h : UH} {res : UR → Prop} {w w' : Wd} {d : Ad}
theorem uc_i {x mi n ci b k : Nat} {as : List Value} (hW : HW w d h) (hk : aK d b = (3, ci, k)) (ha : u_arg (n + 1) st = (.ref b :: as, r)) (hn : as.length = n) (hr : r.length ≤ 4) : ucall (.invokespecial x, [mi, n, ci]) st h = some (mi, .ref b :: as, r) := by
  have hc : u_cls h b = ci := by
    have := hW.1 b
    unfold cellOf at this
    rw [hk] at this
    unfold u_cls; rw [this]; rfl
  unfold ucall
  dsimp only
  rw [ha]
  dsimp only
  rw [if_pos ⟨hn, hc, hr⟩]
theorem en_iw {x mi n ci b k : Nat} {as : List Value} {P : UH → Prop} (hc : code pc = some (.invokespecial x, [mi, n, ci])) (hW : HW w d h) (hk : aK d b = (3, ci, k)) (ha : u_arg (n + 1) st = (.ref b :: as, r)) (hn : as.length = n) (hr : r.length ≤ 4) (hq : ∃ q, call mi (.ref b :: as) h q ∧ q.1 = none ∧ P q.2) (kk : ∀ h' : UH, P h' → Ends call code (pc + 3, L, r, h') res) : Ends call code (pc, L, st, h) res := by
  obtain ⟨⟨v', h'⟩, q1, q2, q3⟩ := hq
  dsimp only at q2 q3
  subst q2
  exact en_call hc (uc_i hW hk ha hn hr) q1 (kk h' q3)
/-- a row of references of one owner -/
theorem hw_rowq (hW : HW w d h) {c k a t n : Nat} {f : Nat → Option Nat} {e : UE} (hk : aK d a = (0, c, 0)) (hs : sd c k = (3, t, n)) (hn : k < nsl c) (hq : ∀ j q, f j = some q → aK d q = (0, u_ocl t, 0)) (he : arrc (sQ (wg c w) k a f) t n k a = e) : HW (ws c w (sQ (wg c w) k a f)) d (va_up h.1 (aP d c k a) e, h.2.1, h.2.2) := by
  have hc := hw_lt hW hk
  obtain ⟨-, hk1, hO⟩ := hw_arr hW hk hs hn
  refine hw_up hW ?_ (fun q hq => ?_) ?_
  · unfold cellOf
    rw [hk1]
    show arrc (wg c (ws c w _)) (sd c k).2.1 (sd c k).2.2 k (aO d (aP d c k a)) = e
    rw [hs, hO, wg_ws w _ (by omega)]
    exact he
  · refine cell_eq hW (fun c' k' g1 g2 => fval_eq (by omega) g2 k' q (fun _ => rfl) (fun _ => rfl) (fun _ => rfl)) (fun c' k' g1 g2 => ?_) (fun t j g => by rw [wg_ne w _ (by omega) (by omega) (by omega)])
    by_cases e1 : c' = c
    · subst e1
      rw [wg_ws w _ (by omega)]
      have hne : ¬ (k' = k ∧ aO d q = a) := fun z => by
        have := (hW.2.2.2.2.2.1 q c' k' g1).2.2
        rw [z.1, z.2] at this
        exact hq this.symm
      have e2 : cQ (sQ (wg c' w) k a f) k' (aO d q) = cQ (wg c' w) k' (aO d q) := up2_ne _ _ hne
      unfold arrc
      rw [e2]
      rfl
    · rw [wg_ne w _ (by omega) (by omega) e1]
  · intro b c' hk' k' hn'
    have h0 := hW.2.2.2.1 b c' hk' k' hn'
    have hc' := (hW.2.2.2.2.1 b c' 0 hk').2
    by_cases e1 : c' = c
    · subst e1
      unfold wfs at h0 ⊢
      rw [wg_ws w _ (by omega)]
      split
      · rename_i e2; rw [e2] at h0; exact h0
      · rename_i t' n' e2; rw [e2] at h0
        refine ⟨h0.1, h0.2.1, fun z j q hj => ?_⟩
        by_cases e3 : k' = k ∧ b = a
        · obtain ⟨rfl, rfl⟩ := e3
          have : cQ (sQ (wg c' w) k' b f) k' b = f := up2_same _ _ _ _
          rw [this] at hj
          rw [hs] at e2
          cases e2
          exact hq j q hj
        · have : cQ (sQ (wg c' w) k a f) k' b = cQ (wg c' w) k' b := up2_ne _ _ e3
          rw [this] at hj
          exact h0.2.2 z j q hj
      · rename_i e2; rw [e2] at h0; exact h0
      · rename_i e2; rw [e2] at h0; exact h0
      · trivial
    · unfold wfs at h0 ⊢
      rw [wg_ne w _ (by omega) (by omega) e1]
      exact h0
def asq (c : Cl) (k a n : Nat) (i : Int32) (y : Nat) : Option Cl := if i < 0 ∨ n ≤ i.toNatClampNeg then none else some (sQ c k a (va_up (cQ c k a) i.toNatClampNeg (some y)))
theorem en_aast {c k a n t y : Nat} {i : Int32} {c' : Cl} (hc : code pc = some (.aastore, [])) (hW : HW w d h) (hk : aK d a = (0, c, 0)) (hs : sd c k = (3, t, n)) (ht : t = 4 ∨ t = 5 ∨ t = 6) (hn : k < nsl c) (hy : aK d y = (0, u_ocl t, 0)) (hv : asq (wg c w) k a n i y = some c') (kk : ∀ h' : UH, HW (ws c w c') d h' → Ends call code (pc + 1, L, r, h') res) : Ends call code (pc, L, .ref y :: .int i :: .ref (aP d c k a) :: r, h) res := by
  unfold asq at hv
  split at hv
  · cases hv
  · rename_i e
    cases hv
    obtain ⟨h1, -, -⟩ := hw_arr hW hk hs hn
    have ea : arrc (wg c w) t n k a = .inl (t, n, .inr (.inr (.inr (.inr (cQ (wg c w) k a))))) := by rcases ht with rfl | rfl | rfl <;> rfl
    have hcl : u_cls h y = u_ocl t := hw_cls hW hy
    have hu : u_ast 4 h (aP d c k a) i (.ref y) = some (.inl (t, n, .inr (.inr (.inr (.inr (va_up (cQ (wg c w) k a) i.toNatClampNeg (some y))))))) := by
      unfold u_ast
      rw [h1, ea]
      dsimp only
      rw [if_neg e, if_pos ⟨rfl, ht, hcl⟩]
    refine en_as0 (m := 4) hc (fun _ => rfl) hu (kk _ (hw_rowq hW hk hs hn (fun j q hj => ?_) ?_))
    · unfold va_up at hj
      split at hj
      · cases hj; exact hy
      · exact wf_elem hW hk hn hs (by rcases ht with rfl | rfl | rfl <;> decide) hj
    · have : cQ (sQ (wg c w) k a (va_up (cQ (wg c w) k a) i.toNatClampNeg (some y))) k a = va_up (cQ (wg c w) k a) i.toNatClampNeg (some y) := up2_same _ _ _ _
      rcases ht with rfl | rfl | rfl <;> (simp only [arrc]; rw [this])
/-- a copy of a row of ints -/
def cpf (n0 : Nat) (f : Nat → Int32) : Nat → Int32 := fun j => if j < n0 then f j else 0
def nwC (c : Cl) (d : Ad) (n0 : Nat) (f : Nat → Int32) (n : Int32) : Option (Cl × Ad) := if n < 0 ∨ ¬ n.toNatClampNeg ≤ 1000 then none else some (sA c 0 (aX d) (cpf n0 f), adn d 1 n.toNatClampNeg)
end Rows9
theorem en_cpy {D : Nat} {code : Nat → Option UI} {pc : Nat} {L : List (Option Value)} {r : List Value} {h : UH} {res : UR → Prop} {w : Wd} {d : Ad} {x c k a n0 : Nat} {n : Int32} {z : Cl × Ad} (hD : 1 ≤ D) (hc : code pc = some (.invokestatic x, [305, 2])) (hW : HW w d h) (hk : aK d a = (0, c, 0)) (hs : sd c k = (3, 1, n0)) (hn : k < nsl c) (h0 : n0 ≤ 1000) (hr : r.length ≤ 4) (hv : nwC (wg 13 w) d n0 (cA (wg c w) k a) n = some z) (kk : ∀ h' : UH, HW (ws 13 w z.1) z.2 h' → Adx d z.2 → aK z.2 (aX d) = (2, 1, 0) → Ends (EX D) code (pc + 3, L, .ref (aX d) :: r, h') res) : Ends (EX D) code (pc, L, .int n :: .ref (aP d c k a) :: r, h) res := by
  unfold nwC at hv
  split at hv
  · cases hv
  · rename_i e
    cases hv
    obtain ⟨D, rfl⟩ : ∃ E, D = E + 1 := ⟨D - 1, by omega⟩
    obtain ⟨h1, -, -⟩ := hw_arr hW hk hs hn
    have e2 : n.toNatClampNeg ≤ 1000 := Classical.not_not.mp fun q => e (Or.inr q)
    have := hw_new (t := 1) (n := n.toNatClampNeg) (x := sA (wg 13 w) 0 (aX d) (cpf n0 (cA (wg c w) k a))) hW (by omega) rfl (fun j b z => up2_ne _ _ z) (fun j b z => rfl)
    have e3 : arrc (sA (wg 13 w) 0 (aX d) (cpf n0 (cA (wg c w) k a))) 1 n.toNatClampNeg 0 (aX d) = .inl (1, n.toNatClampNeg, .inl (cpf n0 (cA (wg c w) k a))) := by simp only [arrc, sA, cA]; rw [up2_same]
    rw [e3] at this
    refine en_call (mi := 305) (as := [.ref (aP d c k a), .int n]) (v := some (.ref (aX d))) (h' := u_new h (.inl (1, n.toNatClampNeg, .inl (cpf n0 (cA (wg c w) k a)))) n.toNatClampNeg) hc (uc_s rfl rfl hr) (Or.inl (Or.inl ⟨rfl, aP d c k a, n, n0, cA (wg c w) k a, rfl, h1, fun q => e (Or.inl q), e2, h0, ?_⟩)) ?_
    · rw [hW.2.1]; rfl
    · exact kk _ this (adn_x hW 1 _) (by rw [adn_k, if_pos rfl])
theorem Adw.p {a0 a c k c0 k0 : Nat} {d e : Ad} (h : Adw a0 d e) (h0 : aK d a0 = (3, c0, k0)) (ha : aK d a = (0, c, 0)) : aP d c k a = aP e c k a :=
  (h.2.2.1 a c k (fun q => by rw [q, h0] at ha; cases ha) ha).symm
theorem Adw.skip {w : Wd} {a0 b : Nat} {d e f : Ad} {h : UH} (hW : HW w d h) (hb : aX d ≤ b) (h1 : Adw a0 d e) (h2 : Adw b e f) : Adw a0 d f := by
  have nb : ∀ {a : Nat}, aK d a ≠ (9, 0, 0) → a ≠ b := fun {a} g q => by subst q; exact g (hW.2.2.2.2.2.2.1 _ hb)
  have n9 : ∀ {a : Nat} {y : Nat × Nat × Nat}, aK d a = y → y.1 ≠ 9 → aK d a ≠ (9, 0, 0) := fun {a y} e1 e2 q => by rw [q] at e1; subst e1; exact e2 rfl
  have kk : ∀ {a : Nat} {y : Nat × Nat × Nat}, a ≠ a0 → aK d a = y → y.1 ≠ 9 → aK e a = y := fun {a y} g e1 e2 => (h1.2.1 a g (n9 e1 e2)).trans e1
  refine ⟨Nat.le_trans h1.1 h2.1, fun a g ha => ?_, fun a c k g ha => ?_, fun a t g ha => ?_, fun a c k g ha => ?_, h2.2.2.2.2.2.1.trans h1.2.2.2.2.2.1, h2.2.2.2.2.2.2.1.trans h1.2.2.2.2.2.2.1, fun a t g ha => ?_⟩
  · have q := h1.2.1 a g ha
    rw [h2.2.1 a (nb ha) (by rw [q]; exact ha), q]
  · have z := n9 ha (show (0 : Nat) ≠ 9 by decide)
    rw [h2.2.2.1 a c k (nb z) (kk g ha (show (0 : Nat) ≠ 9 by decide)), h1.2.2.1 a c k g ha]
  · have z := n9 ha (show (2 : Nat) ≠ 9 by decide)
    rw [h2.2.2.2.1 a t (nb z) (kk g ha (show (2 : Nat) ≠ 9 by decide)), h1.2.2.2.1 a t g ha]
  · have z := n9 ha (show (3 : Nat) ≠ 9 by decide)
    rw [h2.2.2.2.2.1 a c k (nb z) (kk g ha (show (3 : Nat) ≠ 9 by decide)), h1.2.2.2.2.1 a c k g ha]
  · have z := n9 ha (show (4 : Nat) ≠ 9 by decide)
    rw [h2.2.2.2.2.2.2.2 a t (nb z) (kk g ha (show (4 : Nat) ≠ 9 by decide)), h1.2.2.2.2.2.2.2 a t g ha]
theorem hw_old {w : Wd} {d : Ad} {h : UH} {a : Nat} {y : Nat × Nat × Nat} (hW : HW w d h) (ha : aK d a = y) (hy : y.1 ≠ 9) : a < aX d := by
  refine Classical.byContradiction fun q => ?_
  rw [hW.2.2.2.2.2.2.1 a (by omega)] at ha; subst ha; exact hy rfl
