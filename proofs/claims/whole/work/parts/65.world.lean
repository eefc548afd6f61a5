/-! ===== the reference's minutes that are kept; a world against the reference's rows ===== -/
def sh (W : Nat → Int32) (i : Nat) : Nat → Int32 := fun j => if j + 184 < i then W (j + 184) else W j
theorem sh_up {W : Nat → Int32} {i : Nat} (h : 184 ≤ i) : upd (sh W i) (i - 184) (W i) = sh W (i + 1) := by
  funext j
  by_cases q : j = i - 184
  · rw [q, pk_us]; unfold sh; rw [if_pos (by omega), show i - 184 + 184 = i by omega]
  · rw [pk_un q]
    unfold sh
    by_cases w : j + 184 < i
    · rw [if_pos w, if_pos (by omega)]
    · rw [if_neg w, if_neg (by omega)]
/-- the rows that are kept behind one minute more; how many -/
def kmW (W : Nat → Int32) (U : Nat) (S : Nat → Int32) : Nat → Int32 := if U < 20 then pt W (184 * U) S 184 else pt (sh W 3680) (184 * 19) S 184
def kmU (U : Nat) : Nat := if U < 20 then U + 1 else 20
section Ref
variable {c : Cl} {a U : Nat} {W : Nat → Int32}
theorem gl_239a (hU : cI c 23 a = nI 20) : ∀ m i, 184 ≤ i → i + m = 3680 → G_239 a 0 [nI i] [] [] (sA c 22 a (sh W i)) = G_239 a 1 [0] [] [] (sI (sA c 22 a (sh W 3680)) 23 a (nI 19))
  | 0, i, h, hi => by
    have : i = 3680 := by omega
    subst this
    conv => lhs; rw [G_239]
    rw [if_pos (show (3680 : Int32) ≤ nI 3680 from nI_le (a := 3680) (b := 3680) (Nat.le_refl _) (by decide)), cI_sA, hU]
    rfl
  | m + 1, i, h, hi => by
    have ih := gl_239a hU m (i + 1) (by omega) (by omega)
    rw [← ih]
    conv => lhs; rw [G_239]
    rw [if_neg (show ¬ (3680 : Int32) ≤ nI i from nI_ge (a := i) (b := 3680) (by omega) (by decide)), cA_same, ald_ok (show i < 3680 by omega) (by decide)]
    have e : sh W i i = W i := by unfold sh; rw [if_neg (by omega)]
    show ast (sA c 22 a (sh W i)) 22 a 3680 (nI i - nI 184) (sh W i i) >>= (fun c12_5 => G_239 a 0 [nI i + 1] [] [] c12_5) = _
    rw [pk_sub h, e, ast_ok (show i - 184 < 3680 by omega) (by decide), cA_same, sA_sA, sh_up h, nI_1]
    rfl
theorem f_239 (hU : cI c 23 a = nI U) (u20 : U ≤ 20) : F_239 c a = some (sI (sA c 22 a (kmW (cA c 22 a) U (cA c 20 a))) 23 a (nI (kmU U))) := by
  unfold F_239 kmW kmU
  by_cases q : U < 20
  · rw [if_pos q, if_pos q, hU, if_neg (show ¬ nI U = (20 : Int32) from fun z => by have := (nI_eq (a := U) (b := 20) (by omega) (by decide)).mp z; omega)]
    have := gl_239b (W := cA c 22 a) hU q 184 0 rfl
    rw [pt_0, sA_id] at this
    exact this
  · have : U = 20 := by omega
    subst this
    rw [if_neg q, if_neg q, hU, if_pos (show nI 20 = (20 : Int32) from rfl)]
    have e0 : sh (cA c 22 a) 184 = cA c 22 a := by funext j; unfold sh; rw [if_neg (by omega)]
    have a1 := gl_239a (W := cA c 22 a) hU 3496 184 (Nat.le_refl _) rfl
    rw [e0, sA_id] at a1
    refine a1.trans ?_
    have a2 := gl_239b (c := sI (sA c 22 a (sh (cA c 22 a) 3680)) 23 a (nI 19)) (a := a) (U := 19) (W := sh (cA c 22 a) 3680) (cI_same _ _ _ _) (by decide) 184 0 rfl
    have e1 : sA (sI (sA c 22 a (sh (cA c 22 a) 3680)) 23 a (nI 19)) 22 a (sh (cA c 22 a) 3680) = sI (sA c 22 a (sh (cA c 22 a) 3680)) 23 a (nI 19) := by rw [sA_sI, sA_sA]
    rw [pt_0, e1] at a2
    refine a2.trans ?_
    rw [cA_sI, cA_ne (by decide), sA_sI, sA_sA, sI_sI]
theorem gl_240 (hU : cI c 23 a = nI U) (u20 : U < 20) : ∀ m i, i + m = 184 → G_240 a 0 [nI i] [] [] (sA c 20 a (pt (cA c 20 a) 0 (fun k => cA c 22 a (184 * U + k)) i)) = some (nI U, sA c 20 a (pt (cA c 20 a) 0 (fun k => cA c 22 a (184 * U + k)) 184))
  | 0, i, hi => by
    have : i = 184 := by omega
    subst this
    rw [G_240]
    rw [if_pos (show (184 : Int32) ≤ nI 184 from nI_le (a := 184) (b := 184) (Nat.le_refl _) (by decide)), cI_sA, hU]
  | m + 1, i, hi => by
    have ih := gl_240 hU u20 m (i + 1) (by omega)
    rw [G_240]
    refine in_neg (show ¬ (184 : Int32) ≤ nI i from nI_ge (a := i) (b := 184) (by omega) (by decide)) ?_
    rw [cI_sA, hU, cA_ne (show 22 ≠ 20 by decide), show (184 : Int32) * nI U = nI (184 * U) from pk_mul 184 U, nI_add]
    refine ob_mk (ald_ok (by omega) (by decide)) (ob_mk (ast_ok (by omega) (by decide)) ?_)
    have e := pt_up (W := cA c 20 a) (w := 0) (f := fun k => cA c 22 a (184 * U + k)) (i := i)
    rw [Nat.zero_add] at e
    rw [cA_same, sA_sA, e, nI_1]
    exact ih
/-- undo of the reference -/
theorem f_240 (hU : cI c 23 a = nI (U + 1)) (u20 : U < 20) : F_240 c a = some (nI U, sA (sI c 23 a (nI U)) 20 a (pt (cA c 20 a) 0 (fun k => cA c 22 a (184 * U + k)) 184)) := by
  unfold F_240
  rw [hU, if_neg (nI_ne0 (by omega) (by omega))]
  have e : nI (U + 1) - 1 = nI U := nI_pred U
  rw [e]
  have := gl_240 (c := sI c 23 a (nI U)) (a := a) (U := U) (cI_same _ _ _ _) u20 184 0 rfl
  rw [pt_0, cA_sI, sA_sI, sA_id] at this
  exact this
end Ref
/-- a world: its states, the rows that they are, what is told, x -/
def WR (c1 c8 c10 : Cl) (w : Nat) (A : Nat → Nat) (S W : Nat → Int32) (U : Nat) (x : Int32) (X : Nat) (R D H Q L : Nat) (K : Nat → Nat) : Prop :=
  cR c10 0 w = A 0 ∧ (∀ j, j < 20 → cQ c10 1 w j = some (A (1 + j))) ∧ (∀ i, i ≤ 20 → cR c8 0 (A i) < X) ∧
  (∃ M E, M ≤ 9999 ∧ SR c1 c8 (A 0) S R D H Q M L E K) ∧
  (∃ o, o < 20 ∧ cI c10 2 w = nI o ∧ cI c10 3 w = nI U ∧ U ≤ 20 ∧ ∀ i, i < U → ∃ M E, M ≤ 9999 ∧ SR c1 c8 (A (1 + (o + i) % 20)) (fun k => W (184 * i + k)) R D H Q M L E K) ∧
  (cI c10 4 w = x ∧ ¬ x < 0) ∧
  (∃ N, N ≤ 12 ∧ cI c10 5 w = nI N ∧ S 220 = nI N ∧ ∀ i, i < N → cA c10 6 w i = S (184 + 3 * i) ∧ cA c10 7 w i = S (184 + 3 * i + 1) ∧ cA c10 8 w i = S (184 + 3 * i + 2) ∧ (∃ m, m ≤ 8 ∧ S (184 + 3 * i) = nI m) ∧ (∃ s, s < Q ∧ S (184 + 3 * i + 1) = nI s) ∧ (∃ v, v ≤ 99 ∧ S (184 + 3 * i + 2) = nI v))
/-- the fields of a world that its relation reads -/
def Sw (c10 c10' : Cl) (w : Nat) : Prop := cR c10' 0 w = cR c10 0 w ∧ cQ c10' 1 w = cQ c10 1 w ∧ cI c10' 2 w = cI c10 2 w ∧ cI c10' 3 w = cI c10 3 w ∧ cI c10' 4 w = cI c10 4 w ∧ cI c10' 5 w = cI c10 5 w ∧ cA c10' 6 w = cA c10 6 w ∧ cA c10' 7 w = cA c10 7 w ∧ cA c10' 8 w = cA c10 8 w
theorem Sw.rf (c10 : Cl) (w : Nat) : Sw c10 c10 w := ⟨rfl, rfl, rfl, rfl, rfl, rfl, rfl, rfl, rfl⟩
theorem oth_sw {st a : Nat} {c c' : Cl} (h : Oth st c c') (n : a ≠ st) : Sw c c' a := ⟨(h 0 a n).2.2.1, (h 1 a n).2.2.2.2.2, (h 2 a n).1, (h 3 a n).1, (h 4 a n).1, (h 5 a n).1, (h 6 a n).2.2.2.1, (h 7 a n).2.2.2.1, (h 8 a n).2.2.2.1⟩
theorem Sm8.rf (c8 : Cl) (st : Nat) : Sm8 c8 st c8 st := ⟨rfl, rfl, rfl, rfl, fun _ _ _ _ _ => rfl, fun _ _ => rfl⟩
theorem WR_c {c1 c1' c8 c8' c10 c10' : Cl} {w : Nat} {A : Nat → Nat} {S S' W W' : Nat → Int32} {U : Nat} {x : Int32} {X X' R D H Q L : Nat} {K : Nat → Nat} (h8 : ∀ i, i ≤ 20 → Sm8 c8 (A i) c8' (A i)) (h1 : ∀ ho, ho < X → Sm1 c1 c1' ho) (h10 : Sw c10 c10' w) (hS : ∀ j, j < 221 → S' j = S j) (hW : ∀ j, j < 184 * U → W' j = W j) (hX : X ≤ X') (h : WR c1 c8 c10 w A S W U x X R D H Q L K) : WR c1' c8' c10' w A S' W' U x X' R D H Q L K := by
  obtain ⟨a1, a2, a3, ⟨M, E, m9, s⟩, ⟨o, o20, b1, b2, b3, b4⟩, a4, N, n12, t1, t2, t3⟩ := h
  obtain ⟨e1, e2, e3, e4, e5, e6, e7, e8, e9⟩ := h10
  refine ⟨by rw [e1]; exact a1, fun j q => by rw [e2]; exact a2 j q, fun i q => ?_, ⟨M, E, m9, SR_c (h8 0 (by decide)) (h1 _ (a3 0 (by decide))) (fun j q => hS j (by omega)) s⟩, ⟨o, o20, by rw [e3]; exact b1, by rw [e4]; exact b2, b3, fun i q => ?_⟩, by rw [e5]; exact a4, N, n12, by rw [e6]; exact t1, by rw [hS 220 (by decide)]; exact t2, fun i q => ?_⟩
  · rw [(h8 i q).1]; exact Nat.lt_of_lt_of_le (a3 i q) hX
  · obtain ⟨M', E', m9', s'⟩ := b4 i q
    have := Nat.mod_lt (o + i) (show 0 < 20 by decide)
    exact ⟨M', E', m9', SR_c (h8 _ (by omega)) (h1 _ (a3 _ (by omega))) (fun j q => hW _ (by omega)) s'⟩
  · rw [e7, e8, e9, hS _ (show 184 + 3 * i < 221 by omega), hS _ (show 184 + 3 * i + 1 < 221 by omega), hS _ (show 184 + 3 * i + 2 < 221 by omega)]
    exact t3 i q
