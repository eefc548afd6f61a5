section Recount2
variable {c1 c8 : Cl} {st : Nat} {S : Nat → Int32} {R D H Q M E : Nat} {K : Nat → Nat}
theorem gl_87b (hE : cI c8 3 st = nI E) (e6 : E ≤ 6) (hat : ∀ j, j < E → ∃ x, x < 6 ∧ cA c8 8 st j = nI x) {b : Nat → Int32} : ∀ (m i : Nat) (g : Nat → Int32), i + m = E → (∀ r, r < 6 → g r = suf (b r) (ce1 c8 st (nI r)) i) → ∃ g', G_87 c1 st 1 [nI i] [] [] (sA c8 11 st g) = some (sA c8 11 st g') ∧ ∀ r, r < 6 → g' r = suf (b r) (ce1 c8 st (nI r)) E
  | 0, i, g, hi, hg => by
    have : i = E := by omega
    subst this
    refine ⟨g, ?_, hg⟩
    rw [G_87]
    rw [cI_sA, hE, if_pos (nI_le (Nat.le_refl _) (by omega))]
  | m + 1, i, g, hi, hg => by
    have ih := gl_87b hE e6 hat (b := b) m (i + 1)
    obtain ⟨x, hx, ex⟩ := hat i (by omega)
    have hb : ¬ (cI (sA c8 11 st g) 3 st ≤ nI i) := by rw [cI_sA, hE]; exact nI_ge (by omega) (by omega)
    obtain ⟨g', e1, e2⟩ := ih (upd g x (g x + cA c8 9 st i)) (by omega) (fun r hr => by
      rw [up_add hx hr, hg r hr]
      show _ = suf (b r) (ce1 c8 st (nI r)) i + ce1 c8 st (nI r) i
      unfold ce1
      rw [ex])
    refine ⟨g', ?_, e2⟩
    rw [G_87]
    refine in_neg hb ?_
    rw [cA_ne (show 8 ≠ 11 by decide), cA_ne (show 9 ≠ 11 by decide), cA_same]
    refine ob_mk (v := nI x) ((ald_ok (by omega) (by decide)).trans (by rw [ex])) (ob_mk (v := g x) (ald_ok (by omega) (by decide)) (ob_mk (v := cA c8 9 st i) (ald_ok (by omega) (by decide)) (ob_mk (v := sA c8 11 st (upd g x (g x + cA c8 9 st i))) ?_ (by rw [nI_1]; exact e1))))
    rw [ast_ok (by omega) (by decide), cA_same, sA_sA]
/-- recount: heads' and echoes' sums -/
theorem f_87 (hN : SnR c1 c8 st S R D H Q M) (hS : ShR c1 c8 st S H) (hat : ∀ h, h < H → ∃ x, x < 6 ∧ S (40 + 6 * h + 0) = nI x) (hE : cI c8 3 st = nI E) (e6 : E ≤ 6) (hea : ∀ j, j < E → ∃ x, x < 6 ∧ cA c8 8 st j = nI x) : ∃ g, F_87 c1 c8 st = some (sA c8 11 st g) ∧ ∀ r, r < 6 → g r = suf (su (hd1 S (nI r)) H) (ce1 c8 st (nI r)) E := by
  unfold F_87
  obtain ⟨g1, a1, a2⟩ := gl_87a hN hS hat H 0 (filf 6 0 (cA c8 11 st)) (by omega) (fun r hr => by unfold filf; rw [if_pos hr]; rfl)
  obtain ⟨g2, b1, b2⟩ := gl_87b (c1 := c1) hE e6 hea (b := fun r => su (hd1 S (nI r)) H) E 0 g1 (by omega) (fun r hr => a2 r hr)
  exact ⟨g2, ob_mk rfl (a1.trans b1), b2⟩
end Recount2
