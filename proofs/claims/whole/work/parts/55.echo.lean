/-! ===== leavesEcho of the reference: into the first slot that is free ===== -/
section Echo
variable {c : Cl} {a : Nat}
def lvE (S : Nat → Int32) (e : Nat) (x y : Int32) : Nat → Int32 := upd (upd (upd S (94 + 3 * e) x) (94 + 3 * e + 1) y) (94 + 3 * e + 2) (S 4 + S 7)
theorem gl_243 {x y : Int32} {e : Nat} (e6 : e ≤ 6) (hb : ∀ j, j < e → ¬ cA c 20 a (94 + 3 * j + 2) ≤ cA c 20 a 4) (hf : e < 6 → cA c 20 a (94 + 3 * e + 2) ≤ cA c 20 a 4) : ∀ m i, i + m = e → G_243 c a 0 [x, y, nI i] [] [] = some (if e < 6 then sA c 20 a (lvE (cA c 20 a) e x y) else c)
  | 0, i, hi => by
    have : i = e := by omega
    subst this
    rw [G_243]
    by_cases q : i < 6
    · rw [if_pos q, if_neg (show ¬ (6 : Int32) ≤ nI i from nI_ge (a := i) (b := 6) q (by decide)), show ((94 : Int32) + (3 * nI i)) + 2 = nI (94 + 3 * i + 2) from ix_e i 2, show ((94 : Int32) + (3 * nI i)) + 1 = nI (94 + 3 * i + 1) from ix_e i 1, ix_e0]
      refine ob_mk (ald_ok (by omega) (by decide)) (ob_mk al_4 (in_pos (hf q) (ob_mk (ast_ok (by omega) (by decide)) (ob_mk (ast_ok (by omega) (by decide)) ?_))))
      rw [cA_same, sA_sA, cA_same]
      refine ob_mk al_4 (ob_mk (ald_ok (i := 7) (by decide) (by decide)) (ob_mk (ast_ok (by omega) (by decide)) ?_))
      rw [cA_same, sA_sA, pk_un (show 4 ≠ 94 + 3 * i + 1 by omega), pk_un (show 4 ≠ 94 + 3 * i by omega), pk_un (show 7 ≠ 94 + 3 * i + 1 by omega), pk_un (show 7 ≠ 94 + 3 * i by omega)]
      rfl
    · have : i = 6 := by omega
      subst this
      rw [if_neg q, if_pos (by decide)]
  | m + 1, i, hi => by
    have ih := gl_243 (x := x) (y := y) e6 hb hf m (i + 1) (by omega)
    rw [← ih]
    conv => lhs; rw [G_243]
    rw [if_neg (show ¬ (6 : Int32) ≤ nI i from nI_ge (a := i) (b := 6) (by omega) (by decide)), show ((94 : Int32) + (3 * nI i)) + 2 = nI (94 + 3 * i + 2) from ix_e i 2, ald_ok (show 94 + 3 * i + 2 < 221 by omega) (by decide), al_4]
    show (if cA c 20 a (94 + 3 * i + 2) ≤ cA c 20 a 4 then _ else _) = _
    rw [if_neg (hb i (by omega)), nI_1]
end Echo
