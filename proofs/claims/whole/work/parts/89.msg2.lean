/-! ===== messages: both alike ===== -/
/-- rows of counts behind a minute more -/
def nxr (S : Nat → Int32) (R H D Q h : Nat) (f : Nat → Int64) (n t : Nat) : Int64 := sl (fun s => if kb S R H D Q h s t = true then f s else 0) n
def rwk (S : Nat → Int32) (R H D Q h : Nat) (f : Nat → Int64) : Nat → Nat → Int64
  | 0 => f
  | n + 1 => nxr S R H D Q h (rwk S R H D Q h f n) 64
/-- rows that hold sets of rooms alone -/
def Rwz (R : Nat) (f : Nat → Int64) : Prop := f 0 = 0 ∧ ∀ t, 2 ^ R ≤ t → t < 64 → f t = 0
section Msg2
variable {c1 c6 c8 c9 c10 c11 c12 c13 : Cl} {d : Ad} {sc st B B2 w : Nat} {S : Nat → Int32} {A : Nat → Nat} {X R D H Q M L E h : Nat} {K : Nat → Nat}
theorem kb_0 {s : Nat} : kb S R H D Q h s 0 = false := by unfold kb; simp
theorem kb_big {s t : Nat} (ht : 2 ^ R ≤ t) : kb S R H D Q h s t = false := by
  cases e : kb S R H D Q h s t with
  | false => rfl
  | true =>
    unfold kb at e
    rw [Bool.and_eq_true, anyb_t] at e
    obtain ⟨-, x, hx, u⟩ := e
    simp only [decide_eq_true_eq] at u
    have := mk_lt (fun y => wi S R H D h s y && al S Q x y) R
    omega
theorem kb_s0 {t : Nat} : kb S R H D Q h 0 t = false := by
  cases e : kb S R H D Q h 0 t with
  | false => rfl
  | true =>
    unfold kb at e
    rw [Bool.and_eq_true, anyb_t] at e
    obtain ⟨t0, x, hx, u⟩ := e
    simp only [decide_eq_true_eq] at u t0
    have : mk (fun y => wi S R H D h 0 y && al S Q x y) R = 0 := mk_z fun i hi => by
      have : wi S R H D h 0 i = false := by
        cases e2 : wi S R H D h 0 i with
        | false => rfl
        | true =>
          unfold wi at e2
          rw [anyb_t] at e2
          obtain ⟨x, -, v⟩ := e2
          rw [Nat.zero_testBit] at v
          exact absurd v (by simp)
      rw [this]; rfl
    omega
theorem nxr_z {f : Nat → Int64} : Rwz R (nxr S R H D Q h f 64) := ⟨sl_z fun s _ => by rw [kb_0]; rfl, fun t a b => sl_z fun s _ => by rw [kb_big a]; rfl⟩
theorem nxr_R {f : Nat → Int64} {t : Nat} (r6 : R ≤ 6) (hz : Rwz R f) : nxr S R H D Q h f (2 ^ R) t = nxr S R H D Q h f 64 t := by
  have l6 : (2 : Nat) ^ R ≤ 2 ^ 6 := Nat.pow_le_pow_right (by decide) r6
  have := sl_ext (f := fun s => if kb S R H D Q h s t = true then f s else 0) (n := 2 ^ R) (m := 64 - 2 ^ R) (fun i a b => by
    show (if kb S R H D Q h i t = true then f i else 0) = 0
    rw [hz.2 i a (by omega)]; split <;> rfl)
  rw [show 2 ^ R + (64 - 2 ^ R) = 64 by omega] at this
  exact this.symm
/-- the rows of the class: which is which -/
def Rw2 (c9 : Cl) (d : Ad) (w P P' : Nat) : Prop := cR c9 5 w = P ∧ cR c9 6 w = P' ∧ P ≠ P' ∧ aN d P = 64 ∧ aN d P' = 64
def Ot2 (P P' : Nat) (c c' : Cl) : Prop := ∀ k a, a ≠ P → a ≠ P' → cI c' k a = cI c k a ∧ cJ c' k a = cJ c k a ∧ cR c' k a = cR c k a ∧ cA c' k a = cA c k a ∧ cB c' k a = cB c k a ∧ cQ c' k a = cQ c k a
theorem ot2_rf (P P' : Nat) (c : Cl) : Ot2 P P' c c := fun _ _ _ _ => ⟨rfl, rfl, rfl, rfl, rfl, rfl⟩
theorem ot2_tr {P P' : Nat} {c c' c'' : Cl} (h : Ot2 P P' c c') (h' : Ot2 P P' c' c'') : Ot2 P P' c c'' := fun k a n m => by
  obtain ⟨a1, a2, a3, a4, a5, a6⟩ := h k a n m
  obtain ⟨b1, b2, b3, b4, b5, b6⟩ := h' k a n m
  exact ⟨b1.trans a1, b2.trans a2, b3.trans a3, b4.trans a4, b5.trans a5, b6.trans a6⟩
theorem ot2_l {P P' : Nat} {c c' : Cl} (h : Oth P c c') : Ot2 P P' c c' := fun k a n _ => h k a n
theorem ot2_r {P P' : Nat} {c c' : Cl} (h : Oth P' c c') : Ot2 P P' c c' := fun k a _ n => h k a n
theorem ot2_sw {P P' : Nat} {c c' : Cl} (h : Ot2 P P' c c') : Ot2 P' P c c' := fun k a n m => h k a m n
/-- sets one after the other -/
theorem gl_113b {x3 x4 : Int32} {f : Nat → Int64} {P P' : Nat} {Po : Int64 × Cl × Cl × Cl → Prop} (r6 : R ≤ 6) (h0 : cI c6 0 (cR c9 0 w) = nI R) (hL : LRo c9 w S R H D Q h R) (hr : Rw2 c9 d w P P') (k : ∀ c', Oth P' c13 c' → (∀ t, t < 64 → cB c' 0 P' t = nxr S R H D Q h f (2 ^ R) t) → Rn (some (sR c9 5 w P') >>= fun c9_20 => some (sR c9_20 6 w P) >>= fun c9_21 => G_113 c1 c6 c8 d w st 0 [x3, x4 + 1] [] [] c9_21 c') Po) : ∀ (m s : Nat) (c' : Cl), s + m = 2 ^ R → 1 ≤ s → Oth P' c13 c' → (∀ t, t < 64 → cB c' 0 P t = f t) → (∀ t, t < 64 → cB c' 0 P' t = nxr S R H D Q h f s t) → Rn (G_113 c1 c6 c8 d w st 1 [x3, x4, nI s] [] [] c9 c') Po
  | 0, s, c', hs, s1, hO, hf, hn => by
    have : s = 2 ^ R := by omega
    subst this
    have l6 : (2 : Nat) ^ R ≤ 2 ^ 6 := Nat.pow_le_pow_right (by decide) r6
    obtain ⟨e5, e6, hP, n5, n6⟩ := id hr
    rw [G_113, h0, sh_R ⟨R, by omega⟩, e5, e6]
    exact rn_p (nI_le (Nat.le_refl _) (by omega)) (k c' hO hn)
  | m + 1, s, c', hs, s1, hO, hf, hn => by
    have l6 : (2 : Nat) ^ R ≤ 2 ^ 6 := Nat.pow_le_pow_right (by decide) r6
    obtain ⟨e5, e6, hP, n5, n6⟩ := id hr
    rw [G_113, h0, sh_R ⟨R, by omega⟩]
    refine rn_n (show ¬ nI (2 ^ R) ≤ nI s from nI_ge (by omega) (by omega)) ?_
    rw [e5, n5]
    refine rn_ll (by omega) (by decide) ?_
    rw [hf s (by omega)]
    refine rn_b (P := fun t => Oth P' c13 t ∧ (∀ z, z < 64 → cB t 0 P z = f z) ∧ (∀ z, z < 64 → cB t 0 P' z = nxr S R H D Q h f (s + 1) z)) ?_ (fun t ⟨t1, t2, t3⟩ => by rw [nI_1]; exact gl_113b r6 h0 hL hr k m (s + 1) t (by omega) (by omega) t1 t2 t3)
    have nx : ∀ z, nxr S R H D Q h f (s + 1) z = nxr S R H D Q h f s z + if kb S R H D Q h s z = true then f s else 0 := fun z => rfl
    by_cases q : f s = 0
    · refine rn_p ((lg_cmp_eq _ _).mpr q) (rn_r ⟨hO, hf, fun z hz => ?_⟩)
      rw [nx, q, hn z hz]
      split <;> exact (Int64.add_zero _).symm
    · refine rn_n (fun z => q ((lg_cmp_eq _ _).mp z)) (rn_b (f_115 (c13 := c') (s := s) r6 (by omega) h0 hL e5 e6 hP n5 n6) (fun t ⟨t1, t2⟩ => rn_r ⟨oth_tr hO t1, fun z hz => ?_, fun z hz => ?_⟩))
      · rw [(t1 0 P hP).2.2.2.2.1]; exact hf z hz
      · rw [t2 z hz, hn z hz, hf s (by omega)]; rfl
/-- the sum at the end -/
theorem gl_113c {f : Nat → Int64} {P P' : Nat} (r6 : R ≤ 6) (h0 : cI c6 0 (cR c9 0 w) = nI R) (hr : Rw2 c9 d w P P') (hz : Rwz R f) (hf : ∀ t, t < 64 → cB c13 0 P t = f t) : ∀ (m s : Nat), s + m = 2 ^ R → G_113 c1 c6 c8 d w st 2 [nI s] [sl f s] [] c9 c13 = some (sl f 64, c6, c9, c13)
  | 0, s, hs => by
    have : s = 2 ^ R := by omega
    subst this
    have l6 : (2 : Nat) ^ R ≤ 2 ^ 6 := Nat.pow_le_pow_right (by decide) r6
    have := sl_ext (f := f) (n := 2 ^ R) (m := 64 - 2 ^ R) (fun i a b => hz.2 i a (by omega))
    rw [show 2 ^ R + (64 - 2 ^ R) = 64 by omega] at this
    rw [G_113, h0, sh_R ⟨R, by omega⟩, this]
    exact in_pos (nI_le (Nat.le_refl _) (by omega)) rfl
  | m + 1, s, hs => by
    have ih := gl_113c r6 h0 hr hz hf m (s + 1) (by omega)
    have l6 : (2 : Nat) ^ R ≤ 2 ^ 6 := Nat.pow_le_pow_right (by decide) r6
    obtain ⟨e5, e6, hP, n5, n6⟩ := id hr
    rw [G_113, h0, sh_R ⟨R, by omega⟩]
    refine in_neg (show ¬ nI (2 ^ R) ≤ nI s from nI_ge (by omega) (by omega)) ?_
    rw [e5, n5]
    refine ob_mk (ldl_ok (by omega) (by decide)) ?_
    rw [hf s (by omega), nI_1]
    exact ih
/-- minutes one after the other -/
theorem gl_113a {f : Nat → Int64} {n : Nat} (r6 : R ≤ 6) (n12 : n ≤ 12) {c13a : Cl} : ∀ (m i : Nat) (c9' c' : Cl) (P P' : Nat), i + m = n → cI c6 0 (cR c9' 0 w) = nI R → LRo c9' w S R H D Q h R → Rw2 c9' d w P P' → Ot2 P P' c13a c' → Kp [5, 6] c9 c9' → Oth w c9 c9' → Rwz R (rwk S R H D Q h f i) → (∀ t, t < 64 → cB c' 0 P t = rwk S R H D Q h f i t) → Rn (G_113 c1 c6 c8 d w st 0 [nI n, nI i] [] [] c9' c') (fun r => r.1 = sl (rwk S R H D Q h f n) 64 ∧ r.2.1 = c6 ∧ Kp [5, 6] c9 r.2.2.1 ∧ Oth w c9 r.2.2.1 ∧ (Rw2 r.2.2.1 d w P P' ∨ Rw2 r.2.2.1 d w P' P) ∧ Ot2 P P' c13a r.2.2.2)
  | 0, i, c9', c', P, P', hi, h0, hL, hr, hO, k9, o9, hz, hf => by
    have : i = n := by omega
    subst this
    have l0 : 0 < 2 ^ R := Nat.two_pow_pos R
    rw [G_113]
    refine rn_p (nI_le (Nat.le_refl _) (by omega)) ?_
    have g := gl_113c (c1 := c1) (c8 := c8) (st := st) r6 h0 hr hz hf (2 ^ R - 1) 1 (by omega)
    have e : sl (rwk S R H D Q h f i) 1 = 0 := by show 0 + rwk S R H D Q h f i 0 = 0; rw [hz.1]; rfl
    rw [e] at g
    exact rn_q g ⟨rfl, rfl, k9, o9, Or.inl hr, hO⟩
  | m + 1, i, c9', c', P, P', hi, h0, hL, hr, hO, k9, o9, hz, hf => by
    have l0 : 0 < 2 ^ R := Nat.two_pow_pos R
    obtain ⟨e5, e6, hP, n5, n6⟩ := id hr
    rw [G_113]
    refine rn_n (nI_ge (by omega) (by omega)) (rn_s ?_)
    rw [e6, n6]
    refine gl_113b (c13 := c') (f := rwk S R H D Q h f i) (P := P) (P' := P') r6 h0 hL hr (fun t t1 t2 => rn_s (rn_s ?_)) (2 ^ R - 1) 1 _ (by omega) (Nat.le_refl _) oth_B (fun t ht => ?_) (fun t ht => ?_)
    · rw [nI_1]
      refine rn_m (gl_113a r6 n12 m (i + 1) _ t P' P (by omega) ?_ ?_ ?_ (ot2_sw (ot2_tr hO (ot2_r t1))) (kp_tr k9 (kp_tr (kp_R (by decide)) (kp_R (by decide)))) (oth_tr o9 (oth_tr oth_R oth_R)) nxr_z (fun z hz' => by rw [t2 z hz', nxr_R r6 hz]; rfl)) (fun r ⟨a, b, c, e, g, u⟩ => ⟨a, b, c, e, g.symm, ot2_sw u⟩)
      · simp only [cI_sI, cI_sJ, cI_sR, cI_sA, cI_sB, cI_sQ, cR_sI, cR_sJ, cR_sR, cR_sA, cR_sB, cR_sQ, cA_sI, cA_sJ, cA_sR, cA_sA, cA_sB, cA_sQ, Nat.reduceEqDiff, false_and, and_false, and_true, true_and, if_false, if_true, and_self, ↓reduceIte]; exact h0
      · intro z hz'; simp only [cI_sI, cI_sJ, cI_sR, cI_sA, cI_sB, cI_sQ, cR_sI, cR_sJ, cR_sR, cR_sA, cR_sB, cR_sQ, cA_sI, cA_sJ, cA_sR, cA_sA, cA_sB, cA_sQ, Nat.reduceEqDiff, false_and, and_false, and_true, true_and, if_false, if_true, and_self, ↓reduceIte]; exact hL z hz'
      · refine ⟨?_, ?_, Ne.symm hP, n6, n5⟩
        · simp only [cI_sI, cI_sJ, cI_sR, cI_sA, cI_sB, cI_sQ, cR_sI, cR_sJ, cR_sR, cR_sA, cR_sB, cR_sQ, cA_sI, cA_sJ, cA_sR, cA_sA, cA_sB, cA_sQ, Nat.reduceEqDiff, false_and, and_false, and_true, true_and, if_false, if_true, and_self, ↓reduceIte]
        · simp only [cI_sI, cI_sJ, cI_sR, cI_sA, cI_sB, cI_sQ, cR_sI, cR_sJ, cR_sR, cR_sA, cR_sB, cR_sQ, cA_sI, cA_sJ, cA_sR, cA_sA, cA_sB, cA_sQ, Nat.reduceEqDiff, false_and, and_false, and_true, true_and, if_false, if_true, and_self, ↓reduceIte]
    · rw [cB_sB, if_neg (fun z => hP z.2)]; exact hf t ht
    · rw [cB_same]
      show filf 64 0 _ t = 0 + (if kb S R H D Q h 0 t = true then _ else 0)
      unfold filf
      rw [if_pos ht, kb_s0]; rfl
/-- the class's -/
theorem f_113 {n P P' : Nat} (hS : SR c1 c8 st S R D H Q M L E K) (hh : h < H) (hl : ¬ lv S h = 0) (n12 : n ≤ 12) (hr : Rw2 c9 d w P P') : Rn (F_113 c1 c6 c8 c9 c13 d w st (nI h) (nI n)) (fun r => r.1 = sl (rwk S R H D Q h (fun t => if t = 2 ^ q0 S h then 1 else 0) n) 64 ∧ Kp [0, 1, 2, 3, 4, 5, 6, 7, 8, 9, 10, 11] c6 r.2.1 ∧ Oth (cR c9 0 w) c6 r.2.1 ∧ Kp [5, 6, 7, 8] c9 r.2.2.1 ∧ Oth w c9 r.2.2.1 ∧ (Rw2 r.2.2.1 d w P P' ∨ Rw2 r.2.2.1 d w P' P) ∧ Ot2 P P' c13 r.2.2.2) := by
  obtain ⟨⟨-, -, r6⟩, -, ⟨-, -, h6⟩, ⟨-, -, q6⟩, -⟩ := id hS.1.1
  have ql := q0_lt hS hh hl
  obtain ⟨e5, e6, hP, n5, n6⟩ := id hr
  have l6 : (2 : Nat) ^ R ≤ 2 ^ 6 := Nat.pow_le_pow_right (by decide) r6
  have l7 : (2 : Nat) ^ q0 S h < 2 ^ R := Nat.pow_lt_pow_right (by decide) ql
  have l8 : 0 < (2 : Nat) ^ q0 S h := Nat.two_pow_pos _
  unfold F_113
  refine rn_b (take_ok (c6 := c6) (sc := cR c9 0 w) hS) (fun c6a ⟨t1, t2, t3, t4, t5⟩ => rn_e (f_61 h6 hh hl t3) (rn_b (f_114 (c9 := c9) (w := w) hS hh hl t3 t4 rfl) (fun r4 ⟨u1, u2, u3, u4, u5⟩ => rn_s ?_)))
  have v0 : cR r4.2 0 w = cR c9 0 w := by rw [(u3 0 (by decide)).2.2.1]
  have v5 : cR r4.2 5 w = P := by rw [(u3 5 (by decide)).2.2.1]; exact e5
  have v6 : cR r4.2 6 w = P' := by rw [(u3 6 (by decide)).2.2.1]; exact e6
  rw [v5, n5]
  refine rn_ld (by omega) (by decide) ?_
  obtain ⟨a4, -⟩ := hS.1.2.1 h hh
  rw [a4, q0_nI hS hh hl, sh_R ⟨q0 S h, by omega⟩]
  refine rn_sl (i := 2 ^ q0 S h) (by omega) (by decide) ?_
  refine rn_m (gl_113a (c1 := c1) (c8 := c8) (st := st) (c6 := r4.1) (c9 := r4.2) (f := fun t => if t = 2 ^ q0 S h then 1 else 0) (n := n) (c13a := c13) (S := S) (H := H) (D := D) (Q := Q) (h := h) r6 n12 n 0 r4.2 _ P P' (by omega) (by rw [v0, (u1 0 (by decide)).1]; exact t3.1) u5 ⟨v5, v6, hP, n5, n6⟩ (ot2_l (oth_tr oth_B oth_B)) (kp_rf _ _) (oth_rf _ _) ⟨if_neg (by omega), fun t a b => if_neg (by omega)⟩ (fun t ht => ?_)) (fun r ⟨a, b, c, e, g, u⟩ => ⟨a, ?_, ?_, ?_, ?_, g, u⟩)
  · rw [cB_same, cB_same]
    show vp_updL (filf 64 0 (cB c13 0 P)) (2 ^ q0 S h) 1 t = if t = 2 ^ q0 S h then 1 else 0
    by_cases z : t = 2 ^ q0 S h
    · rw [if_pos z, z, pk_uLs]
    · rw [if_neg z, pk_uLn z]; unfold filf; rw [if_pos ht]
  · rw [b]; exact kp_tr t1 (kp_wd u1 (by decide))
  · rw [b]; exact oth_tr t2 u2
  · exact kp_tr (kp_wd u3 (by decide)) (kp_wd c (by decide))
  · exact oth_tr u4 e
end Msg2
