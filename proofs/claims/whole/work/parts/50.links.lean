/-! ===== linkRooms: the row of links is the reference's ===== -/
theorem bit1_01 (x p : Int32) : bit1 x p = 0 ∨ bit1 x p = 1 := by
  unfold bit1
  split
  · exact Or.inr rfl
  · exact Or.inl rfl
section Links
variable {c1 c8 : Cl} {st : Nat} {S : Nat → Int32} {R D H Q M : Nat} {K : Nat → Nat}
theorem gl_86 (hN : SnR c1 c8 st S R D H Q M) (hd : SdR c1 c8 st S R D) : ∀ (m i : Nat) (g : Nat → Int32), i + m = D → (∀ r, r < 6 → g r = bs S (nI r) i) → ∃ g', G_86 c1 st 0 [nI i] [] [] (sA c8 12 st g) = some (sA c8 12 st g') ∧ ∀ r, r < 6 → g' r = bs S (nI r) D
  | 0, i, g, hi, hg => by
    have : i = D := by omega
    subst this
    obtain ⟨-, ⟨h1, -, d10⟩, -⟩ := hN
    refine ⟨g, ?_, hg⟩
    rw [G_86]
    rw [cR_sA, h1, if_pos (nI_le (Nat.le_refl _) (by omega))]
  | m + 1, i, g, hi, hg => by
    obtain ⟨g0, g1, g2, x, y, hx, hy, hxy, ex, ey⟩ := hd i (by omega)
    have ih := gl_86 hN hd m (i + 1)
    obtain ⟨⟨-, -, r6⟩, ⟨h1, -, d10⟩, -⟩ := hN
    have neq : ∀ u v : Nat, u < 6 → v < 6 → u ≠ v → ¬ nI u = nI v := fun u v hu hv n e => n ((nI_eq (by omega) (by omega)).mp e)
    have hb : ¬ (cI c1 1 (cR (sA c8 12 st g) 0 st) ≤ nI i) := by rw [cR_sA, h1]; exact nI_ge (by omega) (by omega)
    have hf : F_85 (sA c8 12 st g) st (nI i) = some (S (10 + 3 * i + 2)) := by
      rw [f_85, cI_sA, g2]
    by_cases q : S (10 + 3 * i + 2) = 0
    · obtain ⟨g', e1, e2⟩ := ih g (by omega) (fun r hr => by
        rw [hg r hr]
        show _ = bs1 S (nI r) (bs S (nI r) i) i
        unfold bs1
        rw [if_pos q])
      refine ⟨g', ?_, e2⟩
      rw [G_86]
      refine in_neg hb (ob_mk hf (ob_mk (in_pos q rfl) ?_))
      rw [nI_1]; exact e1
    · obtain ⟨g', e1, e2⟩ := ih (upd (upd g x (g x ||| (1 <<< (nI y &&& 31)))) y (g y ||| (1 <<< (nI x &&& 31)))) (by omega) (fun r hr => by
        show _ = bs1 S (nI r) (bs S (nI r) i) i
        unfold bs1
        rw [if_neg q, ex, ey, ← hg r hr]
        by_cases w1 : r = y
        · subst w1
          rw [pk_us, if_pos rfl, if_neg (neq x r (by omega) (by omega) hxy)]
        · rw [pk_un w1, if_neg (neq y r (by omega) (by omega) (Ne.symm w1))]
          by_cases w2 : r = x
          · subst w2
            rw [pk_us, if_pos rfl]
          · rw [pk_un w2, if_neg (neq x r (by omega) (by omega) (Ne.symm w2))])
      refine ⟨g', ?_, e2⟩
      rw [G_86]
      refine in_neg hb (ob_mk hf (ob_mk (in_neg q ?_) (by rw [nI_1]; exact e1)))
      rw [cR_sA, cA_same]
      refine ob_mk (v := nI x) ((ald_ok (by omega) (by decide)).trans (by rw [g0, ex])) (ob_mk (v := g x) (ald_ok (by omega) (by decide)) (ob_mk (v := nI y) ((ald_ok (by omega) (by decide)).trans (by rw [g1, ey])) (ob_mk (v := sA c8 12 st (upd g x (g x ||| (1 <<< (nI y &&& 31))))) ?_ ?_)))
      · rw [ast_ok (by omega) (by decide), cA_same, sA_sA]
      · rw [cR_sA, cA_same]
        refine ob_mk (v := nI y) ((ald_ok (by omega) (by decide)).trans (by rw [g1, ey])) (ob_mk (v := g y) ((ald_ok (by omega) (by decide)).trans (by rw [pk_un (Ne.symm hxy)])) (ob_mk (v := nI x) ((ald_ok (by omega) (by decide)).trans (by rw [g0, ex])) (ob_mk (v := sA c8 12 st (upd (upd g x (g x ||| (1 <<< (nI y &&& 31)))) y (g y ||| (1 <<< (nI x &&& 31))))) ?_ rfl)))
        rw [ast_ok (by omega) (by decide), cA_same, sA_sA]
theorem f_86 (hN : SnR c1 c8 st S R D H Q M) (hd : SdR c1 c8 st S R D) : ∃ g, F_86 c1 c8 st = some (sA c8 12 st g) ∧ ∀ r, r < 6 → g r = bs S (nI r) D := by
  unfold F_86
  obtain ⟨g, e1, e2⟩ := gl_86 hN hd D 0 (filf 6 0 (cA c8 12 st)) (by omega) (fun r hr => by unfold filf; rw [if_pos hr]; rfl)
  exact ⟨g, ob_mk rfl e1, e2⟩
end Links
