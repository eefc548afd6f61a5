/-! ===== what counts tell: the reference; known ===== -/
section Known3
variable {c1 c6 c8 c9 c10 c11 c12 : Cl} {wa B B2 : Nat} {A : Nat → Nat} {X R D H Q L N : Nat} {K : Nat → Nat} {gh gf gt gy : Nat → Nat} {x : Int32}
/-- the reference's rows -/
def GoY (c12 : Cl) (B2 N R : Nat) (gh gf gt gy : Nat → Nat) : Prop := cI c12 31 B2 = nI N ∧ cA c12 20 B2 0 = nI R ∧ N ≤ 30 ∧ R ≤ 6 ∧ ∀ k, k < N → gh k < 6 ∧ cA c12 29 B2 k = nI (gh k) ∧ cA c12 30 B2 k = nI (gt k) ∧ cA c12 20 B2 (40 + 6 * gh k + 0) = nI (gf k) ∧ cA c12 20 B2 (40 + 6 * gh k + 1) = nI (gy k) ∧ gf k < R ∧ gt k < R ∧ gt k ≠ gf k ∧ 1 ≤ gy k ∧ gy k ≤ 4
theorem f_270 {k r : Nat} (hG : GoY c12 B2 N R gh gf gt gy) (hk : k < N) (hr : r < R) : F_270 c12 B2 (nI k) (nI r) = some (chg (gf k) (gt k) (gy k) r) := by
  obtain ⟨-, -, n30, r6, g⟩ := hG
  obtain ⟨a0, a1, a2, a3, a4, a5, a6, a7, a8, a9⟩ := g k hk
  have l1 : ald (cA c12 29 B2) 30 (nI k) = some (nI (gh k)) := (ald_ok (by omega) (by decide)).trans (by rw [a1])
  have l2 : ald (cA c12 30 B2) 30 (nI k) = some (nI (gt k)) := (ald_ok (by omega) (by decide)).trans (by rw [a2])
  have l3 : F_223 c12 B2 (nI (gh k)) 1 = some (nI (gy k)) := (f_223 (w := 1) a0 (by decide)).trans (by rw [a4])
  have l4 : F_223 c12 B2 (nI (gh k)) 0 = some (nI (gf k)) := (f_223 (w := 0) a0 (by decide)).trans (by rw [a3])
  unfold F_270 chg
  refine ob_mk l1 (ob_mk l3 (ob_mk l2 ?_))
  by_cases w : r = gt k
  · rw [if_pos w]; exact ob_mk (in_pos (by rw [w]) rfl) rfl
  · rw [if_neg w]
    have w' : ¬ nI r = nI (gt k) := fun z => w ((nI_eq (by omega) (by omega)).mp z)
    by_cases u : r = gf k
    · rw [if_pos u]; exact ob_mk (in_neg w' (ob_mk l1 (ob_mk l4 (in_pos (by rw [u]) rfl)))) rfl
    · rw [if_neg u]; exact ob_mk (in_neg w' (ob_mk l1 (ob_mk l4 (in_neg (fun z => u ((nI_eq (by omega) (by omega)).mp z)) rfl)))) rfl
theorem gl_271 {a b : Nat} (hG : GoY c12 B2 N R gh gf gt gy) (ha : a < N) (hb : b < N) : ∀ m r, r + m = R → ((∀ k, r ≤ k → k < R → bt x k = true → chg (gf a) (gt a) (gy a) k = chg (gf b) (gt b) (gy b) k) ∧ G_271 c12 B2 0 [nI a, nI b, x, nI r] [] [] = some 1) ∨ ((∃ k, k < R ∧ bt x k = true ∧ ¬ chg (gf a) (gt a) (gy a) k = chg (gf b) (gt b) (gy b) k) ∧ G_271 c12 B2 0 [nI a, nI b, x, nI r] [] [] = some 0)
  | 0, r, hr => by
    have : r = R := by omega
    subst this
    obtain ⟨-, g0, n30, r6, g⟩ := id hG
    refine Or.inl ⟨fun k a b => by omega, ?_⟩
    rw [G_271]
    exact ob_mk al_0 (in_pos (by rw [g0]; exact nI_le (Nat.le_refl _) (by omega)) rfl)
  | m + 1, r, hr => by
    have ih := gl_271 hG ha hb m (r + 1) (by omega)
    obtain ⟨-, g0, n30, r6, g⟩ := id hG
    have c1 := f_270 hG ha (show r < R by omega)
    have c2 := f_270 hG hb (show r < R by omega)
    have st : ∀ {y : Option Int32}, (bt x r = false → G_271 c12 B2 0 [nI a, nI b, x, nI (r + 1)] [] [] = y) → (bt x r = true → chg (gf a) (gt a) (gy a) r = chg (gf b) (gt b) (gy b) r → G_271 c12 B2 0 [nI a, nI b, x, nI (r + 1)] [] [] = y) → (bt x r = true → ¬ chg (gf a) (gt a) (gy a) r = chg (gf b) (gt b) (gy b) r → some 0 = y) → G_271 c12 B2 0 [nI a, nI b, x, nI r] [] [] = y := fun {y} h1 h2 h3 => by
      conv => lhs; rw [G_271]
      refine ob_e al_0 ?_
      rw [if_neg (by rw [g0]; exact nI_ge (by omega) (by omega)), nI_1]
      refine ob_e (f_171 _ _) ?_
      rw [bit1_bt (by omega)]
      cases e : bt x r with
      | false => rw [if_pos (show (if false = true then (1 : Int32) else 0) = 0 from rfl)]; exact h1 e
      | true =>
        rw [if_neg (show ¬ (if true = true then (1 : Int32) else 0) = 0 by decide)]
        refine ob_e c1 (ob_e c2 ?_)
        by_cases w : chg (gf a) (gt a) (gy a) r = chg (gf b) (gt b) (gy b) r
        · rw [if_pos w]; exact h2 e w
        · rw [if_neg w]; exact h3 e w
    by_cases q : bt x r = true ∧ ¬ chg (gf a) (gt a) (gy a) r = chg (gf b) (gt b) (gy b) r
    · exact Or.inr ⟨⟨r, by omega, q⟩, st (fun e => by rw [e] at q; cases q.1) (fun _ w => absurd w q.2) (fun _ _ => rfl)⟩
    · rcases ih with ⟨h1, h2⟩ | ⟨h1, h2⟩
      · refine Or.inl ⟨fun k a b c => ?_, st (fun _ => h2) (fun _ _ => h2) (fun e w => absurd ⟨e, w⟩ q)⟩
        by_cases e : k = r
        · subst e; exact Classical.byContradiction fun w => q ⟨c, w⟩
        · exact h1 k (by omega) b c
      · exact Or.inr ⟨h1, st (fun _ => h2) (fun _ _ => h2) (fun e w => absurd ⟨e, w⟩ q)⟩
theorem f_271 {a b : Nat} (hG : GoY c12 B2 N R gh gf gt gy) (ha : a < N) (hb : b < N) : ∃ v, F_271 c12 B2 (nI a) (nI b) x = some v ∧ (v = 0 ↔ ¬ CA x R (gf a) (gt a) (gy a) (gf b) (gt b) (gy b)) := by
  unfold F_271
  rcases gl_271 (x := x) hG ha hb R 0 (by omega) with ⟨h1, h2⟩ | ⟨⟨k, h1, h3, h4⟩, h2⟩
  · exact ⟨1, h2, fun z => absurd z (by decide), fun z => absurd (fun k hk hb => h1 k (Nat.zero_le _) hk hb) z⟩
  · exact ⟨0, h2, fun _ z => h4 (z k h1 h3), fun _ => rfl⟩
/-- two goings that the reference can't tell apart -/
def RB (x : Int32) (R : Nat) (gf gt gy : Nat → Nat) (a b : Nat) : Prop := ¬ (gf b = gf a ∧ gt b = gt a) ∧ CA x R (gf a) (gt a) (gy a) (gf b) (gt b) (gy b)
theorem gl_272b {a : Nat} (hG : GoY c12 B2 N R gh gf gt gy) (ha : a < N) : ∀ m b, b + m = N → ((∀ k, b ≤ k → k < N → ¬ RB x R gf gt gy a k) ∧ G_272 c12 B2 1 [x, nI a, nI (gf a), nI b] [] [] = G_272 c12 B2 0 [x, nI (a + 1)] [] []) ∨ ((∃ k, b ≤ k ∧ k < N ∧ RB x R gf gt gy a k) ∧ G_272 c12 B2 1 [x, nI a, nI (gf a), nI b] [] [] = some 0)
  | 0, b, hb => by
    have : b = N := by omega
    subst this
    obtain ⟨g1, g0, n30, r6, g⟩ := id hG
    refine Or.inl ⟨fun k a b => by omega, ?_⟩
    conv => lhs; rw [G_272]
    rw [if_pos (by rw [g1]; exact nI_le (Nat.le_refl _) (by omega)), nI_1]
  | m + 1, b, hb => by
    have ih := gl_272b hG ha m (b + 1) (by omega)
    obtain ⟨g1, g0, n30, r6, g⟩ := id hG
    obtain ⟨a0, a1, a2, a3, a4, a5, a6, a7, a8, a9⟩ := g a ha
    obtain ⟨b0, b1, b2, b3, b4, b5, b6, b7, b8, b9⟩ := g b (by omega)
    obtain ⟨v, f1, f2⟩ := f_271 (x := x) hG ha (show b < N by omega)
    have st : ∀ {y : Option Int32}, (RB x R gf gt gy a b → some 0 = y) → (¬ RB x R gf gt gy a b → G_272 c12 B2 1 [x, nI a, nI (gf a), nI (b + 1)] [] [] = y) → G_272 c12 B2 1 [x, nI a, nI (gf a), nI b] [] [] = y := fun {y} h1 h2 => by
      conv => lhs; rw [G_272]
      rw [if_neg (by rw [g1]; exact nI_ge (by omega) (by omega)), nI_1]
      refine ob_e ((ald_ok (by omega) (by decide)).trans (by rw [b1])) (ob_e ((f_223 (w := 0) b0 (by decide)).trans (by rw [b3])) ?_)
      have t12 : ((if nI (gf b) = nI (gf a) then ald (cA c12 30 B2) 30 (nI b) >>= fun v18 => ald (cA c12 30 B2) 30 (nI a) >>= fun v19 => if v18 = v19 then some 1 else some 0 else some 0) : Option Int32) = some (if gf b = gf a ∧ gt b = gt a then 1 else 0) := by
        by_cases w : gf b = gf a
        · refine in_pos (by rw [w]) (ob_mk ((ald_ok (by omega) (by decide)).trans (by rw [b2])) (ob_mk ((ald_ok (by omega) (by decide)).trans (by rw [a2])) ?_))
          by_cases u : gt b = gt a
          · rw [show (if gf b = gf a ∧ gt b = gt a then (1 : Int32) else 0) = 1 from if_pos ⟨w, u⟩]; exact in_pos (by rw [u]) rfl
          · rw [show (if gf b = gf a ∧ gt b = gt a then (1 : Int32) else 0) = 0 from if_neg (fun z => u z.2)]; exact in_neg (fun z => u ((nI_eq (by omega) (by omega)).mp z)) rfl
        · rw [show (if gf b = gf a ∧ gt b = gt a then (1 : Int32) else 0) = 0 from if_neg (fun z => w z.1)]; exact in_neg (fun z => w ((nI_eq (by omega) (by omega)).mp z)) rfl
      refine ob_e t12 ?_
      by_cases w : gf b = gf a ∧ gt b = gt a
      · rw [show (if gf b = gf a ∧ gt b = gt a then (1 : Int32) else 0) = 1 from if_pos w, if_neg (show ¬ (1 : Int32) = 0 by decide)]
        exact h2 (fun z => z.1 w)
      · rw [show (if gf b = gf a ∧ gt b = gt a then (1 : Int32) else 0) = 0 from if_neg w, if_pos (show (0 : Int32) = 0 from rfl)]
        refine ob_e f1 ?_
        by_cases u : v = 0
        · rw [if_pos u]; exact h2 (fun z => f2.mp u z.2)
        · rw [if_neg u]; exact h1 ⟨w, Classical.byContradiction fun z => u (f2.mpr z)⟩
    by_cases q : RB x R gf gt gy a b
    · exact Or.inr ⟨⟨b, Nat.le_refl _, by omega, q⟩, st (fun _ => rfl) (fun z => absurd q z)⟩
    · rcases ih with ⟨h1, h2⟩ | ⟨⟨k, h1, h3⟩, h2⟩
      · refine Or.inl ⟨fun k u w => ?_, st (fun z => absurd z q) (fun _ => h2)⟩
        by_cases e : k = b
        · subst e; exact q
        · exact h1 k (by omega) w
      · exact Or.inr ⟨⟨k, by omega, h3⟩, st (fun z => absurd z q) (fun _ => h2)⟩
theorem gl_272a (hG : GoY c12 B2 N R gh gf gt gy) : ∀ m a, a + m = N → ((∀ k, a ≤ k → k < N → Vis x gf gt k ∧ ∀ j, k < j → j < N → ¬ RB x R gf gt gy k j) ∧ G_272 c12 B2 0 [x, nI a] [] [] = some 1) ∨ ((∃ k, k < N ∧ ¬ (Vis x gf gt k ∧ ∀ j, k < j → j < N → ¬ RB x R gf gt gy k j)) ∧ G_272 c12 B2 0 [x, nI a] [] [] = some 0)
  | 0, a, hi => by
    have : a = N := by omega
    subst this
    obtain ⟨g1, g0, n30, r6, g⟩ := id hG
    refine Or.inl ⟨fun k a b => by omega, ?_⟩
    rw [G_272]
    exact in_pos (by rw [g1]; exact nI_le (Nat.le_refl _) (by omega)) rfl
  | m + 1, a, hi => by
    have ih := gl_272a hG m (a + 1) (by omega)
    obtain ⟨g1, g0, n30, r6, g⟩ := id hG
    obtain ⟨a0, a1, a2, a3, a4, a5, a6, a7, a8, a9⟩ := g a (by omega)
    have inn := gl_272b (x := x) hG (show a < N by omega) m (a + 1) (by omega)
    have st : ∀ {y : Option Int32}, (Vis x gf gt a → G_272 c12 B2 1 [x, nI a, nI (gf a), nI (a + 1)] [] [] = y) → (¬ Vis x gf gt a → some 0 = y) → G_272 c12 B2 0 [x, nI a] [] [] = y := fun {y} h1 h2 => by
      conv => lhs; rw [G_272]
      rw [if_neg (by rw [g1]; exact nI_ge (by omega) (by omega)), nI_1]
      refine ob_e ((ald_ok (by omega) (by decide)).trans (by rw [a1])) (ob_e ((f_223 (w := 0) a0 (by decide)).trans (by rw [a3])) (ob_e (f_171 _ _) ?_))
      rw [bit1_bt (by omega)]
      cases e : bt x (gf a) with
      | true => rw [if_neg (show ¬ (if true = true then (1 : Int32) else 0) = 0 by decide)]; exact h1 (Or.inl e)
      | false =>
        rw [if_pos (show (if false = true then (1 : Int32) else 0) = 0 from rfl)]
        refine ob_e ((ald_ok (by omega) (by decide)).trans (by rw [a2])) (ob_e (f_171 _ _) ?_)
        rw [bit1_bt (by omega)]
        cases e2 : bt x (gt a) with
        | true => rw [if_neg (show ¬ (if true = true then (1 : Int32) else 0) = 0 by decide)]; exact h1 (Or.inr e2)
        | false =>
          rw [if_pos (show (if false = true then (1 : Int32) else 0) = 0 from rfl)]
          exact h2 (fun z => z.elim (fun w => by rw [e] at w; cases w) (fun w => by rw [e2] at w; cases w))
    by_cases v : Vis x gf gt a
    · rcases inn with ⟨h1, h2⟩ | ⟨⟨k, h1, h3, h4⟩, h2⟩
      · rcases ih with ⟨h4, h5⟩ | ⟨h4, h5⟩
        · refine Or.inl ⟨fun k u w => ?_, st (fun _ => h2.trans h5) (fun z => absurd v z)⟩
          by_cases e : k = a
          · subst e; exact ⟨v, fun j y z => h1 j (by omega) z⟩
          · exact h4 k (by omega) w
        · exact Or.inr ⟨h4, st (fun _ => h2.trans h5) (fun z => absurd v z)⟩
      · exact Or.inr ⟨⟨a, by omega, fun z => z.2 k (by omega) h3 h4⟩, st (fun _ => h2) (fun z => absurd v z)⟩
    · exact Or.inr ⟨⟨a, by omega, fun z => v z.1⟩, st (fun z => absurd z v) (fun _ => rfl)⟩
theorem fa_sym {f1 t1 y1 f2 t2 y2 : Nat} (h : FA x f1 t1 y1 f2 t2 y2) : FA x f2 t2 y2 f1 t1 y1 := by
  obtain ⟨a, b, c⟩ := h
  exact ⟨a.symm, b.elim (fun e => Or.inl e.symm) (fun e => Or.inr ⟨e.2, e.1⟩), c.elim (fun e => Or.inl e.symm) (fun e => Or.inr ⟨e.2, e.1⟩)⟩
theorem f_272 (hG : GoY c12 B2 N R gh gf gt gy) : (KN x N gf gt gy ∧ F_272 c12 B2 x = some 1) ∨ (¬ KN x N gf gt gy ∧ F_272 c12 B2 x = some 0) := by
  have g := hG.2.2.2.2
  have key : KN x N gf gt gy ↔ ∀ k, k < N → Vis x gf gt k ∧ ∀ j, k < j → j < N → ¬ RB x R gf gt gy k j := by
    have cf : ∀ a b, a < N → b < N → Vis x gf gt a → (CA x R (gf a) (gt a) (gy a) (gf b) (gt b) (gy b) ↔ FA x (gf a) (gt a) (gy a) (gf b) (gt b) (gy b)) := fun a b ha hb hv => by
      obtain ⟨-, -, -, -, -, a5, a6, a7, a8, a9⟩ := g a ha
      obtain ⟨-, -, -, -, -, b5, b6, b7, b8, b9⟩ := g b hb
      exact ca_fa a5 a6 b5 b6 a7 b7 a8 a9 b8 b9 hv
    constructor
    · intro h k hk
      refine ⟨(h k hk).1, fun j u w z => (h j w).2 k u ⟨z.1, ?_⟩⟩
      exact fa_sym ((cf k j hk w (h k hk).1).mp z.2)
    · intro h k hk
      refine ⟨(h k hk).1, fun j u z => (h j (by omega)).2 k u hk ⟨z.1, ?_⟩⟩
      exact (cf j k (by omega) hk (h j (by omega)).1).mpr (fa_sym z.2)
  unfold F_272
  rcases gl_272a (x := x) hG N 0 (by omega) with ⟨h1, h2⟩ | ⟨⟨k, h1, h3⟩, h2⟩
  · exact Or.inl ⟨key.mpr fun k hk => h1 k (Nat.zero_le _) hk, h2⟩
  · exact Or.inr ⟨fun z => h3 (key.mp z k h1), h2⟩
/-- both rows of goings by functions -/
theorem go_fn {S : Nat → Int32} {c1 c8 : Cl} {st M E : Nat} (hS : SR c1 c8 st S R D H Q M L E K) (n30 : N ≤ 30) (h20 : cA c12 20 B2 = S) (hG : GoR S R H c9 wa c12 B2 N) : ∃ gh gf gt gy, GoX c9 wa N R gf gt gy ∧ GoY c12 B2 N R gh gf gt gy := by
  obtain ⟨⟨-, hR, r6⟩, -, ⟨-, hH, h6⟩, -⟩ := id hS.1.1
  obtain ⟨e1, e2, e3⟩ := hG
  have ch : ∀ k, ∃ z : Nat × Nat × Nat, k < N → Go1 S R H c9 wa c12 B2 k z.1 z.2.1 ∧ S (40 + 6 * z.1 + 1) = nI z.2.2 ∧ 1 ≤ z.2.2 ∧ z.2.2 ≤ 4 := fun k => by
    by_cases w : k < N
    · obtain ⟨h, r, g⟩ := e3 k w
      obtain ⟨-, ⟨y, y1, y4, ey⟩, -⟩ := hS.1.2.2.2.2.2.2.2.1.2.1 h g.1
      exact ⟨(h, r, y), fun _ => ⟨g, ey, y1, y4⟩⟩
    · exact ⟨(0, 0, 0), fun z => absurd z w⟩
  refine ⟨fun k => (Classical.choose (ch k)).1, fun k => q0 S (Classical.choose (ch k)).1, fun k => (Classical.choose (ch k)).2.1, fun k => (Classical.choose (ch k)).2.2, ⟨e1, n30, r6, fun k hk => ?_⟩, ⟨e2, by rw [h20]; exact hR, n30, r6, fun k hk => ?_⟩⟩
  · obtain ⟨⟨b1, b2, b3, b4, b5, b6, b7, b8, b9, b10⟩, ey, y1, y4⟩ := Classical.choose_spec (ch k) hk
    exact ⟨b8, b9, b10.trans ey, b4, b3, b5, y1, y4⟩
  · obtain ⟨⟨b1, b2, b3, b4, b5, b6, b7, b8, b9, b10⟩, ey, y1, y4⟩ := Classical.choose_spec (ch k) hk
    obtain ⟨⟨x, hx, ex⟩, -⟩ := hS.1.2.2.2.2.2.2.2.1.2.1 _ b1
    refine ⟨Nat.lt_of_lt_of_le b1 h6, b6, b7, ?_, by rw [h20]; exact ey, b4, b3, b5, y1, y4⟩
    show cA c12 20 B2 (40 + 6 * (Classical.choose (ch k)).1 + 0) = nI (q0 S (Classical.choose (ch k)).1)
    rw [h20, ex]
    unfold q0
    rw [if_neg b2, ex, nI_clamp (by omega)]
theorem q_known {p1 : Int32} (h : WM c1 c8 c10 c12 B2 (cR c11 7 B) A X R D H Q L K) (hP : Pw c12 B2) : ∃ rx rm, F_144 c1 c6 c8 c9 c10 c11 B p1 = some rx ∧ F_273 c12 B2 p1 = some rm ∧ rx.1 = rm.1 ∧ Kp [0, 1, 2, 3, 4, 5, 6, 7, 8, 9, 10, 11] c6 rx.2.1 ∧ Oth (cR c9 0 (cR c11 14 B)) c6 rx.2.1 ∧ Kp [1, 2, 3, 4] c9 rx.2.2 ∧ Oth (cR c11 14 B) c9 rx.2.2 ∧ Kp [24, 29, 30, 31] c12 rm.2 := by
  obtain ⟨U, hU, a1, a2, a3, ⟨M, E, m9, s⟩, -⟩ := id h
  have s' := s
  rw [← a1] at s'
  have hN := s'.1.1
  obtain ⟨⟨hR1, hR, r6⟩, -⟩ := id hN
  have same : ∀ v : Int32, ((v, c6, c9) : Int32 × Cl × Cl).1 = ((v, c12) : Int32 × Cl).1 ∧ Kp [0, 1, 2, 3, 4, 5, 6, 7, 8, 9, 10, 11] c6 c6 ∧ Oth (cR c9 0 (cR c11 14 B)) c6 c6 ∧ Kp [1, 2, 3, 4] c9 c9 ∧ Oth (cR c11 14 B) c9 c9 ∧ Kp [24, 29, 30, 31] c12 c12 := fun v => ⟨rfl, kp_rf _ _, oth_rf _ _, kp_rf _ _, oth_rf _ _, kp_rf _ _⟩
  unfold F_144 F_273
  by_cases q : hh1 R = 0
  · exact ⟨_, _, ob_mk (f_157 hN) (in_pos q rfl), ob_mk (f_218 hN) (in_pos q rfl), same _⟩
  by_cases w1 : p1 < 0
  · exact ⟨_, _, ob_mk (f_157 hN) (in_neg q (in_pos w1 rfl)), ob_mk (f_218 hN) (in_neg q (in_pos w1 rfl)), same _⟩
  rw [hR1]
  by_cases w2 : p1 < (1 <<< (nI R &&& 31))
  · obtain ⟨c6', c9', c12', N, g1, g2, n30, g3, g4, -, g5, g6, g7, g8⟩ := list_ok (c6 := c6) (c9 := c9) (wa := cR c11 14 B) s' hP
    obtain ⟨gh, gf, gt, gy, gx, gy'⟩ := go_fn s' n30 (by rw [(g7 20 (by decide)).2.2.2.1]) g8
    rcases f_109 (x := p1) gx with ⟨k1, k2⟩ | ⟨k1, k2⟩
    · rcases f_272 (x := p1) gy' with ⟨k3, k4⟩ | ⟨k3, k4⟩
      · exact ⟨(1, c6', c9'), (1, c12'), ob_mk (f_157 hN) (in_neg q (in_neg w1 (in_pos w2 (ob_mk g1 (ob_mk k2 (ob_mk (in_neg (by decide) rfl) rfl)))))), ob_mk (f_218 hN) (in_neg q (in_neg w1 (ob_mk al_0 (in_pos (by rw [hR]; exact w2) (ob_mk g2 (ob_mk k4 (ob_mk (in_neg (by decide) rfl) rfl))))))), rfl, g3, g4, g5, g6, g7⟩
      · exact absurd k1 k3
    · rcases f_272 (x := p1) gy' with ⟨k3, k4⟩ | ⟨k3, k4⟩
      · exact absurd k3 k1
      · exact ⟨(0, c6', c9'), (0, c12'), ob_mk (f_157 hN) (in_neg q (in_neg w1 (in_pos w2 (ob_mk g1 (ob_mk k2 (ob_mk (in_pos rfl rfl) rfl)))))), ob_mk (f_218 hN) (in_neg q (in_neg w1 (ob_mk al_0 (in_pos (by rw [hR]; exact w2) (ob_mk g2 (ob_mk k4 (ob_mk (in_pos rfl rfl) rfl))))))), rfl, g3, g4, g5, g6, g7⟩
  · exact ⟨_, _, ob_mk (f_157 hN) (in_neg q (in_neg w1 (in_neg w2 rfl))), ob_mk (f_218 hN) (in_neg q (in_neg w1 (ob_mk al_0 (in_neg (by rw [hR]; exact w2) rfl)))), same _⟩
end Known3
