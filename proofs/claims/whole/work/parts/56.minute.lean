/-! ===== keepsMinute of the reference: the row is copied behind the others ===== -/
def pt (W : Nat → Int32) (w : Nat) (f : Nat → Int32) (i : Nat) : Nat → Int32 := fun j => if w ≤ j ∧ j < w + i then f (j - w) else W j
theorem pt_0 (W : Nat → Int32) (w : Nat) (f : Nat → Int32) : pt W w f 0 = W := by
  funext j; unfold pt; rw [if_neg (fun z => by omega)]
theorem pt_up {W f : Nat → Int32} {w i : Nat} : upd (pt W w f i) (w + i) (f i) = pt W w f (i + 1) := by
  funext j
  by_cases q : j = w + i
  · subst q
    rw [pk_us]
    unfold pt
    rw [if_pos ⟨by omega, by omega⟩, Nat.add_sub_cancel_left]
  · rw [pk_un q]
    unfold pt
    by_cases z : w ≤ j ∧ j < w + i
    · rw [if_pos z, if_pos ⟨z.1, by omega⟩]
    · rw [if_neg z, if_neg (fun y => z ⟨y.1, by omega⟩)]
section Minute
variable {c : Cl} {a U : Nat} {W : Nat → Int32}
theorem gl_239b (hU : cI c 23 a = nI U) (u20 : U < 20) : ∀ m i, i + m = 184 → G_239 a 1 [nI i] [] [] (sA c 22 a (pt W (184 * U) (cA c 20 a) i)) = some (sI (sA c 22 a (pt W (184 * U) (cA c 20 a) 184)) 23 a (nI (U + 1)))
  | 0, i, hi => by
    have : i = 184 := by omega
    subst this
    rw [G_239]
    rw [if_pos (show (184 : Int32) ≤ nI 184 from nI_le (a := 184) (b := 184) (Nat.le_refl _) (by decide)), cI_sA, hU, nI_1]
    rfl
  | m + 1, i, hi => by
    have ih := gl_239b hU u20 m (i + 1) (by omega)
    rw [G_239]
    refine in_neg (show ¬ (184 : Int32) ≤ nI i from nI_ge (a := i) (b := 184) (by omega) (by decide)) ?_
    rw [cA_ne (show 20 ≠ 22 by decide), cI_sA, hU, show (184 : Int32) * nI U = nI (184 * U) from pk_mul 184 U, nI_add]
    refine ob_mk (ald_ok (by omega) (by decide)) (ob_mk (ast_ok (by omega) (by decide)) ?_)
    rw [cA_same, sA_sA, pt_up, nI_1]
    exact ih
end Minute
