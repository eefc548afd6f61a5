/-! ===== a world copied; the reference's images ===== -/
section CopyW
variable {c1 c8 c10 : Cl} {S S' W : Nat → Int32} {U : Nat} {x : Int32} {X R D H Q L : Nat} {K : Nat → Nat}
theorem Sm8.tr {c c' c'' : Cl} {a b d : Nat} (h : Sm8 c a c' b) (h' : Sm8 c' b c'' d) : Sm8 c a c'' d := by
  obtain ⟨f0, f1, f2, f3, f4, f5⟩ := h
  obtain ⟨g0, g1, g2, g3, g4, g5⟩ := h'
  exact ⟨g0.trans f0, g1.trans f1, g2.trans f2, g3.trans f3, fun k j a b c => (g4 k j a b c).trans (f4 k j a b c), fun j a => (g5 j a).trans (f5 j a)⟩
/-- how far the states are copied -/
def CpI (c8 c8' : Cl) (A0 A1 : Nat → Nat) (o i X : Nat) : Prop := (∀ a, (∀ i, i ≤ 20 → a ≠ A0 i) → Sm8 c8 a c8' a) ∧ Sm8 c8 (A1 0) c8' (A0 0) ∧ (∀ j, j < i → Sm8 c8 (A1 (1 + (o + j) % 20)) c8' (A0 (1 + (o + j) % 20))) ∧ (∀ k, k ≤ 20 → cR c8' 0 (A0 k) < X)
theorem gl_118 {a0 a1 o : Nat} {A0 A1 : Nat → Nat} {P : Cl × Cl → Prop} (inj : ∀ i j, i ≤ 20 → j ≤ 20 → A0 i = A0 j → i = j) (ap : ∀ i j, i ≤ 20 → j ≤ 20 → A0 i ≠ A1 j) (ho : o < 20) (u20 : U ≤ 20) (h1 : ∀ j, j < 20 → cQ c10 1 a0 j = some (A0 (1 + j))) (h2 : ∀ j, j < 20 → cQ c10 1 a1 j = some (A1 (1 + j))) (h3 : cI c10 2 a0 = nI o) (h4 : cI c10 3 a0 = nI U) (hX : ∀ i, i ≤ 20 → cR c8 0 (A1 i) < X) (k : ∀ c', CpI c8 c' A0 A1 o U X → Rn (some (sI c10 4 a0 (cI c10 4 a1)) >>= fun c10_7 => some (sI c10_7 5 a0 (cI c10_7 5 a1)) >>= fun c10_8 => cpi c10_8 c10_8 6 a1 12 6 a0 12 0 0 12 >>= fun c10_9 => cpi c10_9 c10_9 7 a1 12 7 a0 12 0 0 12 >>= fun c10_10 => cpi c10_10 c10_10 8 a1 12 8 a0 12 0 0 12 >>= fun c10_11 => some (c', c10_11)) P) : ∀ (m i : Nat) (c' : Cl), i + m = U → CpI c8 c' A0 A1 o i X → Rn (G_118 c10 a0 a1 0 [nI i] [] [] c') P
  | 0, i, c', hi, hc => by
    have : i = U := by omega
    subst this
    rw [G_118]
    exact rn_p (by rw [h4]; exact nI_le (Nat.le_refl _) (by omega)) (k c' hc)
  | m + 1, i, c', hi, hc => by
    have u := Nat.mod_lt (o + i) (show 0 < 20 by decide)
    rw [G_118]
    refine rn_n (by rw [h4]; exact nI_ge (by omega) (by omega)) ?_
    rw [h3, nI_add]
    refine rn_e (irm_ok (x := o + i) (y := 20) (by omega) (by decide) (by decide)) (rn_e (ldq_ok u (by decide)) (rn_e (ldq_ok u (by decide)) ?_))
    rw [h1 _ u, h2 _ u]
    obtain ⟨i1, i2, i3, i4⟩ := hc
    refine rn_e rfl (rn_e rfl (rn_b (f_82 (Ne.symm (ap _ _ (by omega) (by omega)))) (fun c'' ⟨cS, cO⟩ => ?_)))
    rw [nI_1]
    have at1 : ∀ j, j ≤ 20 → Sm8 c8 (A1 j) c' (A1 j) := fun j q => i1 _ (fun i z => Ne.symm (ap i j z q))
    refine gl_118 inj ap ho u20 h1 h2 h3 h4 hX k m (i + 1) c'' (by omega) ⟨fun a ha => Sm8.tr (i1 a ha) (oth_sm cO (ha _ (by omega))), Sm8.tr i2 (oth_sm cO (fun e => by have := inj _ _ (by omega) (by omega) e; omega)), fun j q => ?_, fun j q => ?_⟩
    · by_cases w : j = i
      · subst w; exact Sm8.tr (at1 _ (by omega)) cS
      · have := Nat.mod_lt (o + j) (show 0 < 20 by decide)
        exact Sm8.tr (i3 j (by omega)) (oth_sm cO (fun e => by have := inj _ _ (by omega) (by omega) e; omega))
    · by_cases w : j = 1 + (o + i) % 20
      · subst w; rw [cS.1, (at1 _ (by omega)).1]; exact hX _ (by omega)
      · rw [(oth_sm cO (fun e => w (inj _ _ q (by omega) e))).1]; exact i4 j q
set_option maxRecDepth 10000 in
theorem cpw_ok {a0 a1 : Nat} {A0 A1 : Nat → Nat} (inj : ∀ i j, i ≤ 20 → j ≤ 20 → A0 i = A0 j → i = j) (ap : ∀ i j, i ≤ 20 → j ≤ 20 → A0 i ≠ A1 j) (nw : a1 ≠ a0) (g0 : cR c10 0 a0 = A0 0) (g1 : ∀ j, j < 20 → cQ c10 1 a0 j = some (A0 (1 + j))) (g2 : ∀ i, i ≤ 20 → cR c8 0 (A0 i) < X) (h : WR c1 c8 c10 a1 A1 S W U x X R D H Q L K) : Rn (F_118 c8 c10 a0 a1) (fun r => WR c1 r.1 r.2 a0 A0 S W U x X R D H Q L K ∧ (∀ a, (∀ i, i ≤ 20 → a ≠ A0 i) → Sm8 c8 a r.1 a) ∧ Oth a0 c10 r.2) := by
  obtain ⟨a1', a2, a3, ⟨M, E, m9, s⟩, ⟨o, o20, b1, b2, b3, b4⟩, a5, N, n12, t1, t2, t3⟩ := id h
  unfold F_118
  rw [g0, a1']
  refine rn_b (f_82 (Ne.symm (ap 0 0 (by decide) (by decide)))) (fun c' ⟨cS, cO⟩ => rn_s (rn_s ?_))
  have e3 : cI (sI c10 2 a0 (cI c10 2 a1)) 3 a1 = nI U := by rw [cI_sI, if_neg (fun z => nw z.2)]; exact b2
  rw [e3, b1]
  have c0 : CpI c8 c' A0 A1 o 0 X := ⟨fun a ha => oth_sm cO (ha 0 (by decide)), cS, fun j q => by omega, fun k q => by
    by_cases w : k = 0
    · subst w; rw [cS.1]; exact a3 0 (by decide)
    · rw [(oth_sm cO (fun e => w (inj _ _ q (by omega) e))).1]; exact g2 k q⟩
  have cp : ∀ (c : Cl) (k : Nat), cpi c c k a1 12 k a0 12 0 0 12 = some (sA c k a0 (va_cpy (cA c k a1) (cA c k a0) 0 0 12)) := fun c k => cpi_ok (sp := 0) (dp := 0) (z := 12) (by decide) (by decide) (by decide) (by decide)
  refine gl_118 (c10 := sI (sI c10 2 a0 (nI o)) 3 a0 (nI U)) (o := o) (U := U) inj ap o20 b3 (fun j q => g1 j q) (fun j q => a2 j q) (by rw [cI_sI, if_neg (fun z => by omega), cI_same]) (cI_same _ _ _ _) a3 (fun c'' hc => ?_) U 0 c' (by omega) c0
  obtain ⟨i1, i2, i3, i4⟩ := hc
  refine rn_s (rn_s (rn_e (cp _ _) (rn_e (cp _ _) (rn_e (cp _ _) (rn_r ⟨?_, i1, ?_⟩)))))
  · dsimp only
    refine ⟨g0, fun j q => g1 j q, i4, ⟨M, E, m9, SR_c i2 (Sm1.rf _ _) (fun _ _ => rfl) s⟩, ⟨o, o20, ?_, ?_, b3, fun i q => ?_⟩, ?_, N, n12, ?_, t2, fun i q => ?_⟩
    · simp only [cI_sI, cI_sJ, cI_sR, cI_sA, cI_sB, cI_sQ, cR_sI, cR_sJ, cR_sR, cR_sA, cR_sB, cR_sQ, cA_sI, cA_sJ, cA_sR, cA_sA, cA_sB, cA_sQ, Nat.reduceEqDiff, false_and, and_false, and_true, true_and, if_false, if_true, and_self, ↓reduceIte, nw]
    · simp only [cI_sI, cI_sJ, cI_sR, cI_sA, cI_sB, cI_sQ, cR_sI, cR_sJ, cR_sR, cR_sA, cR_sB, cR_sQ, cA_sI, cA_sJ, cA_sR, cA_sA, cA_sB, cA_sQ, Nat.reduceEqDiff, false_and, and_false, and_true, true_and, if_false, if_true, and_self, ↓reduceIte, nw]
    · obtain ⟨M2, E2, m92, s2⟩ := b4 i q
      exact ⟨M2, E2, m92, SR_c (i3 i q) (Sm1.rf _ _) (fun _ _ => rfl) s2⟩
    · simp only [cI_sI, cI_sJ, cI_sR, cI_sA, cI_sB, cI_sQ, cR_sI, cR_sJ, cR_sR, cR_sA, cR_sB, cR_sQ, cA_sI, cA_sJ, cA_sR, cA_sA, cA_sB, cA_sQ, Nat.reduceEqDiff, false_and, and_false, and_true, true_and, if_false, if_true, and_self, ↓reduceIte, nw]; exact a5
    · simp only [cI_sI, cI_sJ, cI_sR, cI_sA, cI_sB, cI_sQ, cR_sI, cR_sJ, cR_sR, cR_sA, cR_sB, cR_sQ, cA_sI, cA_sJ, cA_sR, cA_sA, cA_sB, cA_sQ, Nat.reduceEqDiff, false_and, and_false, and_true, true_and, if_false, if_true, and_self, ↓reduceIte, nw]; exact t1
    · have ci : ∀ {f g : Nat → Int32}, va_cpy f g 0 0 12 i = f i := fun {f g} => by rw [pk_cpy_in (Nat.zero_le _) (by omega)]; rw [Nat.zero_add, Nat.sub_zero]
      simp only [cI_sI, cI_sJ, cI_sR, cI_sA, cI_sB, cI_sQ, cR_sI, cR_sJ, cR_sR, cR_sA, cR_sB, cR_sQ, cA_sI, cA_sJ, cA_sR, cA_sA, cA_sB, cA_sQ, Nat.reduceEqDiff, false_and, and_false, and_true, true_and, if_false, if_true, and_self, ↓reduceIte, nw, ci]
      exact t3 i q
  · exact oth_tr oth_I (oth_tr oth_I (oth_tr oth_I (oth_tr oth_I (oth_tr oth_A (oth_tr oth_A oth_A)))))
end CopyW
section RefI
variable {c : Cl} {a U k : Nat}
/-- a stretch of one row put into another, cell by cell -/
def ptt (V : Nat → Int32) (w : Nat) (f : Nat → Int32) (s i : Nat) : Nat → Int32 := pt V w (fun j => f (s + j)) i
theorem gl_297a (hk : k < 4) {V : Nat → Int32} : ∀ m i, i + m = 221 → G_297 a 0 [nI k, nI i] [] [] (sA c 47 a (pt V (221 * k) (cA c 20 a) i)) = G_297 a 1 [nI k, 0] [] [] (sA c 47 a (pt V (221 * k) (cA c 20 a) 221))
  | 0, i, hi => by
    have : i = 221 := by omega
    subst this
    conv => lhs; rw [G_297]
    rw [if_pos (show (221 : Int32) ≤ nI 221 from nI_le (a := 221) (b := 221) (Nat.le_refl _) (by decide))]
  | m + 1, i, hi => by
    have ih := gl_297a hk (V := V) m (i + 1) (by omega)
    rw [← ih]
    conv => lhs; rw [G_297]
    rw [if_neg (show ¬ (221 : Int32) ≤ nI i from nI_ge (a := i) (b := 221) (by omega) (by decide)), cA_ne (show 20 ≠ 47 by decide), ald_ok (show i < 221 by omega) (by decide), show (221 : Int32) * nI k = nI (221 * k) from pk_mul 221 k, nI_add]
    show ast _ 47 a 884 (nI (221 * k + i)) (cA c 20 a i) >>= (fun c12_8 => G_297 a 0 [nI k, nI i + 1] [] [] c12_8) = _
    rw [ast_ok (show 221 * k + i < 884 by omega) (by decide), cA_same, sA_sA, pt_up, nI_1]
    rfl
theorem gl_297b (hk : k < 4) (hU : cI c 23 a = nI U) (u20 : U ≤ 20) {V : Nat → Int32} : ∀ m i, i + m = 184 * U → G_297 a 1 [nI k, nI i] [] [] (sA c 48 a (pt V (3680 * k) (cA c 22 a) i)) = some (cA c 20 a 4, sA c 48 a (pt V (3680 * k) (cA c 22 a) (184 * U)))
  | 0, i, hi => by
    have : i = 184 * U := by omega
    subst this
    rw [G_297]
    rw [cI_sA, hU, show (184 : Int32) * nI U = nI (184 * U) from pk_mul 184 U, if_pos (nI_le (Nat.le_refl _) (by omega)), cA_ne (show 20 ≠ 48 by decide)]
    exact ob_mk al_4 rfl
  | m + 1, i, hi => by
    have ih := gl_297b hk hU u20 (V := V) m (i + 1) (by omega)
    rw [G_297]
    rw [cI_sA, hU, show (184 : Int32) * nI U = nI (184 * U) from pk_mul 184 U]
    refine in_neg (nI_ge (by omega) (by omega)) ?_
    rw [cA_ne (show 22 ≠ 48 by decide), show (3680 : Int32) * nI k = nI (3680 * k) from pk_mul 3680 k, nI_add]
    refine ob_mk (ald_ok (by omega) (by decide)) (ob_mk (ast_ok (by omega) (by decide)) ?_)
    rw [cA_same, sA_sA, pt_up, nI_1]
    exact ih
theorem gl_298a (hk : k < 4) : ∀ m i, i + m = 221 → G_298 a 0 [nI k, nI i] [] [] (sA c 20 a (pt (cA c 20 a) 0 (fun j => cA c 47 a (221 * k + j)) i)) = G_298 a 1 [nI k, 0] [] [] (sA c 20 a (pt (cA c 20 a) 0 (fun j => cA c 47 a (221 * k + j)) 221))
  | 0, i, hi => by
    have : i = 221 := by omega
    subst this
    conv => lhs; rw [G_298]
    rw [if_pos (show (221 : Int32) ≤ nI 221 from nI_le (a := 221) (b := 221) (Nat.le_refl _) (by decide))]
  | m + 1, i, hi => by
    have ih := gl_298a hk m (i + 1) (by omega)
    have e := pt_up (W := cA c 20 a) (w := 0) (f := fun j => cA c 47 a (221 * k + j)) (i := i)
    rw [Nat.zero_add] at e
    rw [← ih]
    conv => lhs; rw [G_298]
    rw [if_neg (show ¬ (221 : Int32) ≤ nI i from nI_ge (a := i) (b := 221) (by omega) (by decide)), cA_ne (show 47 ≠ 20 by decide), show (221 : Int32) * nI k = nI (221 * k) from pk_mul 221 k, nI_add, ald_ok (show 221 * k + i < 884 by omega) (by decide)]
    show ast _ 20 a 221 (nI i) (cA c 47 a (221 * k + i)) >>= (fun c12_11 => G_298 a 0 [nI k, nI i + 1] [] [] c12_11) = _
    rw [ast_ok (show i < 221 by omega) (by decide), cA_same, sA_sA, e, nI_1]
    rfl
theorem gl_298b (hk : k < 4) (hU : cI c 23 a = nI U) (u20 : U ≤ 20) : ∀ m i, i + m = 184 * U → G_298 a 1 [nI k, nI i] [] [] (sA c 22 a (pt (cA c 22 a) 0 (fun j => cA c 48 a (3680 * k + j)) i)) = some (cA c 20 a 4, sA c 22 a (pt (cA c 22 a) 0 (fun j => cA c 48 a (3680 * k + j)) (184 * U)))
  | 0, i, hi => by
    have : i = 184 * U := by omega
    subst this
    rw [G_298]
    rw [cI_sA, hU, show (184 : Int32) * nI U = nI (184 * U) from pk_mul 184 U, if_pos (nI_le (Nat.le_refl _) (by omega)), cA_ne (show 20 ≠ 22 by decide)]
    exact ob_mk al_4 rfl
  | m + 1, i, hi => by
    have ih := gl_298b hk hU u20 m (i + 1) (by omega)
    have e := pt_up (W := cA c 22 a) (w := 0) (f := fun j => cA c 48 a (3680 * k + j)) (i := i)
    rw [Nat.zero_add] at e
    rw [G_298]
    rw [cI_sA, hU, show (184 : Int32) * nI U = nI (184 * U) from pk_mul 184 U]
    refine in_neg (nI_ge (by omega) (by omega)) ?_
    rw [cA_ne (show 48 ≠ 22 by decide), show (3680 : Int32) * nI k = nI (3680 * k) from pk_mul 3680 k, nI_add]
    refine ob_mk (ald_ok (by omega) (by decide)) (ob_mk (ast_ok (by omega) (by decide)) ?_)
    rw [cA_same, sA_sA, e, nI_1]
    exact ih
/-- the reference's image, made -/
theorem f_297 (hk : k < 4) (hU : cI c 23 a = nI U) (u20 : U ≤ 20) : Rn (F_297 c a (nI k)) (fun r => r.1 = cA c 20 a 4 ∧ Kp [47, 48, 49, 50, 51] c r.2 ∧ cA r.2 51 a = upd (cA c 51 a) k 1 ∧ cA r.2 49 a = upd (cA c 49 a) k (nI U) ∧ cA r.2 50 a = upd (cA c 50 a) k (cI c 21 a) ∧ cA r.2 47 a = pt (cA c 47 a) (221 * k) (cA c 20 a) 221 ∧ cA r.2 48 a = pt (cA c 48 a) (3680 * k) (cA c 22 a) (184 * U)) := by
  have e3 : F_170 (nI k).toInt64 0 3 = some (if nI k < 0 then 0 else if 3 < nI k then 0 else 1) := f_170 (nI k) 0 3
  rw [in_in (k := k) (n := 3) (m := 3) rfl (by omega) (by decide)] at e3
  unfold F_297
  refine rn_e e3 (rn_n (by decide) (rn_st hk (by decide) (rn_st hk (by decide) (rn_st hk (by decide) ?_))))
  rw [cI_sA, cI_sA, cI_sA, hU, show vp_nar .boolean 1 = 1 from rfl, cA_ne (show 49 ≠ 51 by decide), cA_ne (show 50 ≠ 49 by decide), cA_ne (show 50 ≠ 51 by decide)]
  obtain ⟨c5, h5⟩ : ∃ c5, c5 = sA (sA (sA c 51 a (upd (cA c 51 a) k 1)) 49 a (upd (cA c 49 a) k (nI U))) 50 a (upd (cA c 50 a) k (cI c 21 a)) := ⟨_, rfl⟩
  rw [← h5]
  have k5 : Kp [49, 50, 51] c c5 := by rw [h5]; exact kp_tr (kp_A (by decide)) (kp_tr (kp_A (by decide)) (kp_A (by decide)))
  have s1 := gl_297a (c := c5) (a := a) hk (V := cA c5 47 a) 221 0 rfl
  rw [pt_0, sA_id] at s1
  have s2 := gl_297b (c := sA c5 47 a (pt (cA c5 47 a) (221 * k) (cA c5 20 a) 221)) (a := a) (U := U) hk (by rw [cI_sA, (k5 23 (by decide)).1]; exact hU) u20 (V := cA c5 48 a) (184 * U) 0 (by omega)
  rw [pt_0, show cA c5 48 a = cA (sA c5 47 a (pt (cA c5 47 a) (221 * k) (cA c5 20 a) 221)) 48 a by rw [cA_ne (by decide)], sA_id] at s2
  refine rn_q (s1.trans s2) ⟨?_, ?_, ?_, ?_, ?_, ?_, ?_⟩
  · dsimp only; rw [cA_ne (by decide), (k5 20 (by decide)).2.2.2.1]
  · exact kp_tr (kp_wd k5 (by decide)) (kp_tr (kp_A (by decide)) (kp_A (by decide)))
  · dsimp only; rw [h5]; simp only [cI_sI, cI_sJ, cI_sR, cI_sA, cI_sB, cI_sQ, cR_sI, cR_sJ, cR_sR, cR_sA, cR_sB, cR_sQ, cA_sI, cA_sJ, cA_sR, cA_sA, cA_sB, cA_sQ, Nat.reduceEqDiff, false_and, and_false, and_true, true_and, if_false, if_true, and_self, ↓reduceIte]
  · dsimp only; rw [h5]; simp only [cI_sI, cI_sJ, cI_sR, cI_sA, cI_sB, cI_sQ, cR_sI, cR_sJ, cR_sR, cR_sA, cR_sB, cR_sQ, cA_sI, cA_sJ, cA_sR, cA_sA, cA_sB, cA_sQ, Nat.reduceEqDiff, false_and, and_false, and_true, true_and, if_false, if_true, and_self, ↓reduceIte]
  · dsimp only; rw [h5]; simp only [cI_sI, cI_sJ, cI_sR, cI_sA, cI_sB, cI_sQ, cR_sI, cR_sJ, cR_sR, cR_sA, cR_sB, cR_sQ, cA_sI, cA_sJ, cA_sR, cA_sA, cA_sB, cA_sQ, Nat.reduceEqDiff, false_and, and_false, and_true, true_and, if_false, if_true, and_self, ↓reduceIte]
  · dsimp only; rw [cA_ne (by decide), cA_same, (k5 47 (by decide)).2.2.2.1, (k5 20 (by decide)).2.2.2.1]
  · dsimp only; rw [cA_same, cA_ne (by decide), cA_ne (by decide), (k5 48 (by decide)).2.2.2.1, (k5 22 (by decide)).2.2.2.1]
/-- gone back to -/
theorem f_298 (hk : k < 4) (hm : ¬ cA c 51 a k = 0) (hU : cA c 49 a k = nI U) (u20 : U ≤ 20) : Rn (F_298 c a (nI k)) (fun r => Kp [20, 21, 22, 23] c r.2 ∧ cI r.2 23 a = nI U ∧ cI r.2 21 a = cA c 50 a k ∧ r.1 = cA r.2 20 a 4 ∧ (∀ j, j < 221 → cA r.2 20 a j = cA c 47 a (221 * k + j)) ∧ (∀ j, j < 184 * U → cA r.2 22 a j = cA c 48 a (3680 * k + j))) := by
  have e3 : F_170 (nI k).toInt64 0 3 = some (if nI k < 0 then 0 else if 3 < nI k then 0 else 1) := f_170 (nI k) 0 3
  rw [in_in (k := k) (n := 3) (m := 3) rfl (by omega) (by decide)] at e3
  unfold F_298
  refine rn_e e3 (rn_n (by decide) (rn_ld hk (by decide) (rn_n hm (rn_ld hk (by decide) (rn_s ?_)))))
  rw [cA_sI, hU]
  refine rn_ld hk (by decide) (rn_s ?_)
  obtain ⟨c5, h5⟩ : ∃ c5, c5 = sI (sI c 23 a (nI U)) 21 a (cA c 50 a k) := ⟨_, rfl⟩
  rw [← h5]
  have k5 : Kp [21, 23] c c5 := by rw [h5]; exact kp_tr (kp_I (by decide)) (kp_I (by decide))
  have u5 : cI c5 23 a = nI U := by rw [h5, cI_sI, if_neg (fun z => by omega), cI_same]
  have s1 := gl_298a (c := c5) (a := a) hk 221 0 rfl
  rw [pt_0, sA_id] at s1
  obtain ⟨c6, h6⟩ : ∃ c6, c6 = sA c5 20 a (pt (cA c5 20 a) 0 (fun j => cA c5 47 a (221 * k + j)) 221) := ⟨_, rfl⟩
  rw [← h6] at s1
  have s2 := gl_298b (c := c6) (a := a) (U := U) hk (by rw [h6, cI_sA]; exact u5) u20 (184 * U) 0 (by omega)
  rw [pt_0, sA_id] at s2
  refine rn_q (s1.trans s2) ⟨?_, ?_, ?_, ?_, ?_, ?_⟩
  · exact kp_tr (kp_wd k5 (by decide)) (kp_tr (by rw [h6]; exact kp_A (by decide)) (kp_A (by decide)))
  · dsimp only; rw [cI_sA, h6, cI_sA]; exact u5
  · dsimp only; rw [cI_sA, h6, cI_sA, h5, cI_same]
  · dsimp only; rw [cA_ne (by decide)]
  · intro j q; dsimp only
    rw [cA_ne (by decide), h6, cA_same, (k5 47 (by decide)).2.2.2.1]
    unfold pt; rw [if_pos ⟨by omega, by omega⟩, Nat.sub_zero]
  · intro j q; dsimp only
    rw [cA_same]
    unfold pt; rw [if_pos ⟨by omega, by omega⟩, Nat.sub_zero, h6, cA_ne (by decide), (k5 48 (by decide)).2.2.2.1]
end RefI
