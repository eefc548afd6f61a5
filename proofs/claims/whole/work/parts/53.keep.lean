/-! ===== keepCounts; the reference's minute and goings ===== -/
theorem cpi_ok {c0 c : Cl} {k0 a0 n0 k a n sp dp z : Nat} (h1 : sp + z ≤ n0) (h2 : dp + z ≤ n) (hn0 : n0 < 2 ^ 31) (hn : n < 2 ^ 31) : cpi c0 c k0 a0 n0 k a n (nI sp) (nI dp) (nI z) = some (sA c k a (va_cpy (cA c0 k0 a0) (cA c k a) sp dp z)) := by
  unfold cpi
  rw [nI_clamp (show sp < 2 ^ 31 by omega), nI_clamp (show dp < 2 ^ 31 by omega), nI_clamp (show z < 2 ^ 31 by omega)]
  rw [if_neg]
  rintro (q | q | q | q | q)
  · exact nI_pos (by omega) q
  · exact nI_pos (by omega) q
  · exact nI_pos (by omega) q
  · exact q h1
  · exact q h2
theorem f_88 {c8 : Cl} {st M : Nat} (hM : cI c8 1 st = nI M) (hM2 : M < 2 ^ 30) : F_88 c8 st = some (sA c8 13 st (va_cpy (cA c8 11 st) (cA c8 13 st) 0 (M % 10 * 6) 6)) := by
  have hm : M % 10 < 10 := Nat.mod_lt _ (by decide)
  unfold F_88
  rw [hM]
  refine ob_mk (v := nI (M % 10)) (irm_ok (x := M) (y := 10) (by omega) (by decide) (by decide)) ?_
  rw [show nI (M % 10) * (6 : Int32) = nI (M % 10 * 6) from pk_mul _ 6]
  exact ob_mk (cpi_ok (sp := 0) (z := 6) (by decide) (by omega) (by decide) (by decide)) rfl
section Goes
variable {c : Cl} {a : Nat}
theorem f_242 : F_242 c a = some (sA c 20 a (upd (cA c 20 a) 4 (cA c 20 a 4 + 1))) := by
  unfold F_242
  exact ob_mk al_4 (ob_mk (ast_ok (i := 4) (by decide) (by decide)) rfl)
theorem f_244 {h : Nat} {p : Int32} (hh : h < 6) : F_244 c a (nI h) p = some (sA c 20 a (upd (upd (upd (upd (cA c 20 a) (40 + 6 * h + 3) (cA c 20 a (40 + 6 * h))) (40 + 6 * h) p) (40 + 6 * h + 4) (cA c 20 a (40 + 6 * h + 4) + 1)) 5 (cA c 20 a 5 + 1))) := by
  have i0 : (40 : Int32) + (6 * nI h) = nI (40 + 6 * h) := by
    rw [show (6 : Int32) * nI h = nI (6 * h) from pk_mul 6 h]; exact nI_add 40 (6 * h)
  have i3 : nI (40 + 6 * h) + (3 : Int32) = nI (40 + 6 * h + 3) := nI_add _ 3
  have i4 : nI (40 + 6 * h) + (4 : Int32) = nI (40 + 6 * h + 4) := nI_add _ 4
  unfold F_244
  rw [i0, i3, i4]
  refine ob_mk (ald_ok (by omega) (by decide)) (ob_mk (ast_ok (by omega) (by decide)) (ob_mk (ast_ok (by omega) (by decide)) ?_))
  rw [cA_same, sA_sA, cA_same]
  refine ob_mk (ald_ok (by omega) (by decide)) (ob_mk (ast_ok (by omega) (by decide)) ?_)
  rw [cA_same, sA_sA]
  refine ob_mk (ald_ok (i := 5) (by decide) (by decide)) (ob_mk (ast_ok (i := 5) (by decide) (by decide)) ?_)
  rw [cA_same, sA_sA]
  rw [pk_un (show 40 + 6 * h + 4 ≠ 40 + 6 * h by omega), pk_un (show 40 + 6 * h + 4 ≠ 40 + 6 * h + 3 by omega), pk_un (show 5 ≠ 40 + 6 * h + 4 by omega), pk_un (show 5 ≠ 40 + 6 * h by omega), pk_un (show 5 ≠ 40 + 6 * h + 3 by omega), cA_same]
end Goes
