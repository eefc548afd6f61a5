/-! ===== fields and their setters ===== -/
theorem cI_sI (c : Cl) (k a : Nat) (v : Int32) (j b : Nat) : cI (sI c k a v) j b = if j = k ∧ b = a then v else cI c j b := id rfl
theorem cI_sJ (c : Cl) (k a : Nat) (v : Int64) : cI (sJ c k a v) = cI c := id rfl
theorem cI_sR (c : Cl) (k a : Nat) (v : Nat) : cI (sR c k a v) = cI c := id rfl
theorem cI_sA (c : Cl) (k a : Nat) (v : Nat → Int32) : cI (sA c k a v) = cI c := id rfl
theorem cI_sB (c : Cl) (k a : Nat) (v : Nat → Int64) : cI (sB c k a v) = cI c := id rfl
theorem cI_sQ (c : Cl) (k a : Nat) (v : Nat → Option Nat) : cI (sQ c k a v) = cI c := id rfl
theorem cJ_sI (c : Cl) (k a : Nat) (v : Int32) : cJ (sI c k a v) = cJ c := id rfl
theorem cJ_sJ (c : Cl) (k a : Nat) (v : Int64) (j b : Nat) : cJ (sJ c k a v) j b = if j = k ∧ b = a then v else cJ c j b := id rfl
theorem cJ_sR (c : Cl) (k a : Nat) (v : Nat) : cJ (sR c k a v) = cJ c := id rfl
theorem cJ_sA (c : Cl) (k a : Nat) (v : Nat → Int32) : cJ (sA c k a v) = cJ c := id rfl
theorem cJ_sB (c : Cl) (k a : Nat) (v : Nat → Int64) : cJ (sB c k a v) = cJ c := id rfl
theorem cJ_sQ (c : Cl) (k a : Nat) (v : Nat → Option Nat) : cJ (sQ c k a v) = cJ c := id rfl
theorem cR_sI (c : Cl) (k a : Nat) (v : Int32) : cR (sI c k a v) = cR c := id rfl
theorem cR_sJ (c : Cl) (k a : Nat) (v : Int64) : cR (sJ c k a v) = cR c := id rfl
theorem cR_sR (c : Cl) (k a : Nat) (v : Nat) (j b : Nat) : cR (sR c k a v) j b = if j = k ∧ b = a then v else cR c j b := id rfl
theorem cR_sA (c : Cl) (k a : Nat) (v : Nat → Int32) : cR (sA c k a v) = cR c := id rfl
theorem cR_sB (c : Cl) (k a : Nat) (v : Nat → Int64) : cR (sB c k a v) = cR c := id rfl
theorem cR_sQ (c : Cl) (k a : Nat) (v : Nat → Option Nat) : cR (sQ c k a v) = cR c := id rfl
theorem cA_sI (c : Cl) (k a : Nat) (v : Int32) : cA (sI c k a v) = cA c := id rfl
theorem cA_sJ (c : Cl) (k a : Nat) (v : Int64) : cA (sJ c k a v) = cA c := id rfl
theorem cA_sR (c : Cl) (k a : Nat) (v : Nat) : cA (sR c k a v) = cA c := id rfl
theorem cA_sA (c : Cl) (k a : Nat) (v : Nat → Int32) (j b : Nat) : cA (sA c k a v) j b = if j = k ∧ b = a then v else cA c j b := id rfl
theorem cA_sB (c : Cl) (k a : Nat) (v : Nat → Int64) : cA (sB c k a v) = cA c := id rfl
theorem cA_sQ (c : Cl) (k a : Nat) (v : Nat → Option Nat) : cA (sQ c k a v) = cA c := id rfl
theorem cB_sI (c : Cl) (k a : Nat) (v : Int32) : cB (sI c k a v) = cB c := id rfl
theorem cB_sJ (c : Cl) (k a : Nat) (v : Int64) : cB (sJ c k a v) = cB c := id rfl
theorem cB_sR (c : Cl) (k a : Nat) (v : Nat) : cB (sR c k a v) = cB c := id rfl
theorem cB_sA (c : Cl) (k a : Nat) (v : Nat → Int32) : cB (sA c k a v) = cB c := id rfl
theorem cB_sB (c : Cl) (k a : Nat) (v : Nat → Int64) (j b : Nat) : cB (sB c k a v) j b = if j = k ∧ b = a then v else cB c j b := id rfl
theorem cB_sQ (c : Cl) (k a : Nat) (v : Nat → Option Nat) : cB (sQ c k a v) = cB c := id rfl
theorem cQ_sI (c : Cl) (k a : Nat) (v : Int32) : cQ (sI c k a v) = cQ c := id rfl
theorem cQ_sJ (c : Cl) (k a : Nat) (v : Int64) : cQ (sJ c k a v) = cQ c := id rfl
theorem cQ_sR (c : Cl) (k a : Nat) (v : Nat) : cQ (sR c k a v) = cQ c := id rfl
theorem cQ_sA (c : Cl) (k a : Nat) (v : Nat → Int32) : cQ (sA c k a v) = cQ c := id rfl
theorem cQ_sB (c : Cl) (k a : Nat) (v : Nat → Int64) : cQ (sB c k a v) = cQ c := id rfl
theorem cQ_sQ (c : Cl) (k a : Nat) (v : Nat → Option Nat) (j b : Nat) : cQ (sQ c k a v) j b = if j = k ∧ b = a then v else cQ c j b := id rfl
theorem up2_up {α : Type} (f : Nat → Nat → α) (k a : Nat) (v w : α) : up2 (up2 f k a v) k a w = up2 f k a w := by
  funext j b; unfold up2; split <;> rfl
theorem sI_sI (c : Cl) (k a : Nat) (v w : Int32) : sI (sI c k a v) k a w = sI c k a w := by unfold sI; dsimp only; rw [up2_up]
theorem sJ_sJ (c : Cl) (k a : Nat) (v w : Int64) : sJ (sJ c k a v) k a w = sJ c k a w := by unfold sJ; dsimp only; rw [up2_up]
theorem sR_sR (c : Cl) (k a : Nat) (v w : Nat) : sR (sR c k a v) k a w = sR c k a w := by unfold sR; dsimp only; rw [up2_up]
theorem sA_sA (c : Cl) (k a : Nat) (v w : Nat → Int32) : sA (sA c k a v) k a w = sA c k a w := by unfold sA; dsimp only; rw [up2_up]
theorem sB_sB (c : Cl) (k a : Nat) (v w : Nat → Int64) : sB (sB c k a v) k a w = sB c k a w := by unfold sB; dsimp only; rw [up2_up]
theorem sQ_sQ (c : Cl) (k a : Nat) (v w : Nat → Option Nat) : sQ (sQ c k a v) k a w = sQ c k a w := by unfold sQ; dsimp only; rw [up2_up]
theorem sA_sI (c : Cl) (k a k2 a2 : Nat) (v : Int32) (f : Nat → Int32) : sA (sI c k a v) k2 a2 f = sI (sA c k2 a2 f) k a v := id rfl
theorem cA_same (c : Cl) (k a : Nat) (f : Nat → Int32) : cA (sA c k a f) k a = f := up2_same _ _ _ _
theorem cI_same (c : Cl) (k a : Nat) (v : Int32) : cI (sI c k a v) k a = v := up2_same _ _ _ _
theorem ast_ok {c : Cl} {k a n i : Nat} {x : Int32} (h : i < n) (hn : n < 2 ^ 31) : ast c k a n (nI i) x = some (sA c k a (upd (cA c k a) i x)) := by
  unfold ast; rw [if_neg (nI_in h hn), nI_clamp (by omega)]
theorem ald_ok {f : Nat → Int32} {n i : Nat} (h : i < n) (hn : n < 2 ^ 31) : ald f n (nI i) = some (f i) := by
  unfold ald; rw [if_neg (nI_in h hn), nI_clamp (by omega)]
/-! ===== the tape: feed, end ===== -/
/-- four bytes of a number behind l -/
def byt (x : Int32) (s : Int32) : Int32 := vp_nar .byte ((x >>> (s &&& 31) : Int32).toInt8.toInt32)
def put4 (f : Nat → Int32) (l : Nat) (x : Int32) : Nat → Int32 := upd (upd (upd (upd f l (byt x 24)) (l + 1) (byt x 16)) (l + 2) (byt x 8)) (l + 3) (byt x 0)
set_option maxRecDepth 100000 in
theorem f_156 {c : Cl} {a l : Nat} {x : Int32} (h : cI c 1 a = nI l) (hl : l + 4 ≤ 400) : F_156 c a x = some (sI (sA c 0 a (put4 (cA c 0 a) l x)) 1 a (nI (l + 4))) := by
  have st : ∀ (c : Cl) (l : Nat) (y : Int32), cI c 1 a = nI l → l < 400 → ¬ y < 0 → G_156 a 0 [x, y] [] [] c = G_156 a 0 [x, y + (-8)] [] [] (sI (sA c 0 a (upd (cA c 0 a) l (byt x y))) 1 a (nI (l + 1))) := fun c l y h hl hy => by
    rw [G_156]
    rw [if_neg hy, h, if_neg (show ¬ (400 : Int32) ≤ nI l from nI_ge (a := l) (b := 400) hl (by omega)), ast_ok hl (by omega)]
    show G_156 a 0 [x, y + (-8)] [] [] (sI (sA c 0 a _) 1 a (cI (sA c 0 a _) 1 a + 1)) = _
    rw [cI_sA, h, nI_1]
    rfl
  unfold F_156
  rw [st c l 24 h (by omega) (by decide), show (24 : Int32) + (-8) = 16 by decide, st _ (l + 1) 16 (cI_same _ _ _ _) (by omega) (by decide), show (16 : Int32) + (-8) = 8 by decide, st _ (l + 2) 8 (cI_same _ _ _ _) (by omega) (by decide), show (8 : Int32) + (-8) = 0 by decide, st _ (l + 3) 0 (cI_same _ _ _ _) (by omega) (by decide), show (0 : Int32) + (-8) = -8 by decide]
  rw [G_156]
  rw [if_pos (by decide)]
  simp only [cA_sI, cA_same, sA_sI, sA_sA, sI_sI]
  unfold put4
  simp only [Nat.add_assoc, Nat.reduceAdd]
set_option maxRecDepth 100000 in
theorem f_173 {c : Cl} {a l : Nat} {x : Int32} (h : cI c 1 a = nI l) (hl : l + 4 ≤ 400) : F_173 c a x = some (sI (sA c 0 a (put4 (cA c 0 a) l x)) 1 a (nI (l + 4))) := by
  have st : ∀ (c : Cl) (l : Nat) (y : Int32), cI c 1 a = nI l → l < 400 → ¬ y < 0 → G_173 a 0 [x, y] [] [] c = G_173 a 0 [x, y + (-8)] [] [] (sI (sA c 0 a (upd (cA c 0 a) l (byt x y))) 1 a (nI (l + 1))) := fun c l y h hl hy => by
    rw [G_173]
    rw [if_neg hy, h, ast_ok hl (by omega)]
    show G_173 a 0 [x, y + (-8)] [] [] (sI (sA c 0 a _) 1 a (cI (sA c 0 a _) 1 a + 1)) = _
    rw [cI_sA, h, nI_1]
    rfl
  unfold F_173
  rw [st c l 24 h (by omega) (by decide), show (24 : Int32) + (-8) = 16 by decide, st _ (l + 1) 16 (cI_same _ _ _ _) (by omega) (by decide), show (16 : Int32) + (-8) = 8 by decide, st _ (l + 2) 8 (cI_same _ _ _ _) (by omega) (by decide), show (8 : Int32) + (-8) = 0 by decide, st _ (l + 3) 0 (cI_same _ _ _ _) (by omega) (by decide), show (0 : Int32) + (-8) = -8 by decide]
  rw [G_173]
  rw [if_pos (by decide)]
  simp only [cA_sI, cA_same, sA_sI, sA_sA, sI_sI]
  unfold put4
  simp only [Nat.add_assoc, Nat.reduceAdd]
def put20 (f : Nat → Int32) (l : Nat) (a b c d e : Int32) : Nat → Int32 := put4 (put4 (put4 (put4 (put4 f l a) (l + 4) b) (l + 8) c) (l + 12) d) (l + 16) e
set_option maxRecDepth 100000 in
theorem f_123 {c : Cl} {a l : Nat} {p1 p2 p3 p4 p5 : Int32} (h : cI c 1 a = nI l) (hl : l ≤ 400) : F_123 c a p1 p2 p3 p4 p5 = some (if l + 20 ≤ 400 then (nI (l + 20), sI (sA c 0 a (put20 (cA c 0 a) l p1 p2 p3 p4 p5)) 1 a (nI (l + 20))) else (-1, c)) := by
  unfold F_123
  rw [h, show nI l + 20 = nI (l + 20) from nI_add l 20]
  by_cases hc : l + 20 ≤ 400
  · rw [if_pos hc, if_pos (show nI (l + 20) ≤ (400 : Int32) from nI_le (a := l + 20) (b := 400) hc (by omega))]
    refine ob_mk (f_156 h (by omega)) (ob_mk (f_156 (cI_same _ _ _ _) (by omega)) (ob_mk (f_156 (cI_same _ _ _ _) (by omega)) (ob_mk (f_156 (cI_same _ _ _ _) (by omega)) (ob_mk (f_156 (cI_same _ _ _ _) (by omega)) ?_))))
    rw [cI_same]
    simp only [cA_sI, cA_same, sA_sI, sA_sA, sI_sI]
    unfold put20
    simp only [Nat.add_assoc, Nat.reduceAdd]
  · rw [if_neg hc, if_neg (show ¬ nI (l + 20) ≤ (400 : Int32) from nI_ge (a := 400) (b := l + 20) (by omega) (by omega))]
set_option maxRecDepth 100000 in
theorem f_174 {c : Cl} {a l : Nat} {p1 p2 p3 p4 p5 : Int32} (h : cI c 1 a = nI l) (hl : l ≤ 400) : F_174 c a p1 p2 p3 p4 p5 = some (if l + 20 ≤ 400 then (nI (l + 20), sI (sA c 0 a (put20 (cA c 0 a) l p1 p2 p3 p4 p5)) 1 a (nI (l + 20))) else (-1, c)) := by
  unfold F_174
  rw [h, show nI l + 20 = nI (l + 20) from nI_add l 20]
  by_cases hc : l + 20 ≤ 400
  · rw [if_pos hc, if_pos (show nI (l + 20) ≤ (400 : Int32) from nI_le (a := l + 20) (b := 400) hc (by omega))]
    refine ob_mk (f_173 h (by omega)) (ob_mk (f_173 (cI_same _ _ _ _) (by omega)) (ob_mk (f_173 (cI_same _ _ _ _) (by omega)) (ob_mk (f_173 (cI_same _ _ _ _) (by omega)) (ob_mk (f_173 (cI_same _ _ _ _) (by omega)) ?_))))
    rw [cI_same]
    simp only [cA_sI, cA_same, sA_sI, sA_sA, sI_sI]
    unfold put20
    simp only [Nat.add_assoc, Nat.reduceAdd]
  · rw [if_neg hc, if_neg (show ¬ nI (l + 20) ≤ (400 : Int32) from nI_ge (a := 400) (b := l + 20) (by omega) (by omega))]

