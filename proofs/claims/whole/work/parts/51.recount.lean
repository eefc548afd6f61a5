/-! ===== recount: the row of counts is heads' and echoes' sums ===== -/
theorem cA_ne {c : Cl} {k a : Nat} {f : Nat → Int32} {j b : Nat} (h : j ≠ k) : cA (sA c k a f) j b = cA c j b := by
  rw [cA_sA, if_neg (fun z => h z.1)]
/-- what an echo of the class adds -/
def ce1 (c8 : Cl) (st : Nat) (r : Int32) (j : Nat) : Int32 := if cA c8 8 st j = r then cA c8 9 st j else 0
section Recount
variable {c1 c8 : Cl} {st : Nat} {S : Nat → Int32} {R D H Q M E : Nat} {K : Nat → Nat}
theorem up_add {g : Nat → Int32} {x r : Nat} {v : Int32} (hx : x < 6) (hr : r < 6) : upd g x (g x + v) r = g r + (if nI x = nI r then v else 0) := by
  by_cases w : r = x
  · subst w; rw [pk_us, if_pos rfl]
  · rw [pk_un w, if_neg (fun e => w ((nI_eq (by omega) (by omega)).mp e).symm), Int32.add_zero]
theorem gl_87a (hN : SnR c1 c8 st S R D H Q M) (hS : ShR c1 c8 st S H) (hat : ∀ h, h < H → ∃ x, x < 6 ∧ S (40 + 6 * h + 0) = nI x) : ∀ (m i : Nat) (g : Nat → Int32), i + m = H → (∀ r, r < 6 → g r = su (hd1 S (nI r)) i) → ∃ g', G_87 c1 st 0 [nI i] [] [] (sA c8 11 st g) = G_87 c1 st 1 [0] [] [] (sA c8 11 st g') ∧ ∀ r, r < 6 → g' r = su (hd1 S (nI r)) H
  | 0, i, g, hi, hg => by
    have : i = H := by omega
    subst this
    obtain ⟨-, -, ⟨h1, -, h6⟩, -⟩ := hN
    refine ⟨g, ?_, hg⟩
    conv => lhs; rw [G_87]
    rw [cR_sA, h1, if_pos (nI_le (Nat.le_refl _) (by omega))]
  | m + 1, i, g, hi, hg => by
    have ih := gl_87a hN hS hat m (i + 1)
    have hf : F_84 (sA c8 11 st g) st (nI i) = some (ctd S i) := by
      rw [← f_84 (by omega) hN hS]
      unfold F_84
      rw [cA_ne (by decide), cI_sA]
    obtain ⟨x, hx, ex⟩ := hat i (by omega)
    obtain ⟨a0, a1, -⟩ := hS i (by omega)
    obtain ⟨-, -, ⟨h1, -, h6⟩, -⟩ := hN
    have hb : ¬ (cI c1 2 (cR (sA c8 11 st g) 0 st) ≤ nI i) := by rw [cR_sA, h1]; exact nI_ge (by omega) (by omega)
    by_cases q : ctd S i = 0
    · obtain ⟨g', e1, e2⟩ := ih g (by omega) (fun r hr => by
        rw [hg r hr]
        show _ = su (hd1 S (nI r)) i + hd1 S (nI r) i
        unfold hd1
        rw [if_pos q, Int32.add_zero])
      refine ⟨g', ?_, e2⟩
      rw [← e1]
      conv => lhs; rw [G_87]
      rw [if_neg hb, hf]
      show ((if ctd S i = 0 then some (sA c8 11 st g) else _ : Option Cl) >>= fun t => G_87 c1 st 0 [nI i + 1] [] [] t) = _
      rw [if_pos q, nI_1]
      rfl
    · obtain ⟨g', e1, e2⟩ := ih (upd g x (g x + S (40 + 6 * i + 1))) (by omega) (fun r hr => by
        rw [up_add hx hr, hg r hr]
        show _ = su (hd1 S (nI r)) i + hd1 S (nI r) i
        unfold hd1
        rw [if_neg q, ex])
      refine ⟨g', ?_, e2⟩
      rw [← e1]
      have hs : (ald (cA (sA c8 11 st g) 4 st) 6 (nI i) >>= fun v8 => ald (cA (sA c8 11 st g) 11 st) 6 v8 >>= fun v9 => ald (cA c1 8 (cR (sA c8 11 st g) 0 st)) 6 (nI i) >>= fun v10 => ast (sA c8 11 st g) 11 st 6 v8 (v9 + v10) >>= fun c8_11 => some c8_11) = some (sA c8 11 st (upd g x (g x + S (40 + 6 * i + 1)))) := by
        rw [cA_ne (by decide), cA_same, cR_sA]
        refine ob_mk (v := nI x) ((ald_ok (by omega) (by decide)).trans (by rw [a0, ex])) (ob_mk (v := g x) (ald_ok (by omega) (by decide)) (ob_mk (v := S (40 + 6 * i + 1)) ((ald_ok (by omega) (by decide)).trans (by rw [a1])) (ob_mk (v := sA c8 11 st (upd g x (g x + S (40 + 6 * i + 1)))) ?_ rfl)))
        rw [ast_ok (by omega) (by decide), cA_same, sA_sA]
      conv => lhs; rw [G_87]
      rw [if_neg hb, hf]
      show ((if ctd S i = 0 then some (sA c8 11 st g) else (ald (cA (sA c8 11 st g) 4 st) 6 (nI i) >>= fun v8 => ald (cA (sA c8 11 st g) 11 st) 6 v8 >>= fun v9 => ald (cA c1 8 (cR (sA c8 11 st g) 0 st)) 6 (nI i) >>= fun v10 => ast (sA c8 11 st g) 11 st 6 v8 (v9 + v10) >>= fun c8_11 => some c8_11) : Option Cl) >>= fun t => G_87 c1 st 0 [nI i + 1] [] [] t) = _
      rw [if_neg q, hs, nI_1]
      rfl
end Recount
