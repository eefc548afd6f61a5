/-! ===== house: a state begins ===== -/
section Begin
variable {c1 c8 c10 c12 : Cl} {st ho B2 : Nat} {Y S : Nat → Int32} {R D H Q L : Nat} {lg : Int32}
/-- the row of the reference as a house gives it -/
def S0R (Y S : Nat → Int32) (L : Nat) : Prop := (∀ j, j < 94 → j ≠ 7 → S j = Y j) ∧ S 7 = nI L ∧ (∀ j, 94 ≤ j → j < 221 → S j = 0)
theorem begin_ok (hH : HR c1 ho Y R D H Q lg) (r6 : R ≤ 6) (hL : cI c1 4 ho = nI L) (l9 : L ≤ 9) (hS : S0R Y S L) : ∃ K, Rn (F_81 c1 c8 st ho) (fun c' => Oth st c8 c' ∧ cR c' 0 st = ho ∧ SR c1 c' st (kp S H 112 R) R D H Q 0 L 0 K) := by
  obtain ⟨⟨⟨n0, m0⟩, ⟨n1, m1, d10⟩, ⟨n2, m2, h6⟩, ⟨n3, m3, q6⟩, m4, m5⟩, hd, hh, hr, hs, hf, hl⟩ := hH
  obtain ⟨s1, s7, s2⟩ := hS
  refine ⟨fun r => (Y (76 + r)).toNatClampNeg, ?_⟩
  have cp : ∀ c : Cl, cpi c1 c 7 ho 6 4 st 6 0 0 6 = some (sA c 4 st (va_cpy (cA c1 7 ho) (cA c 4 st) 0 0 6)) := fun c => cpi_ok (sp := 0) (dp := 0) (z := 6) (by decide) (by decide) (by decide) (by decide)
  unfold F_81
  refine rn_s (rn_s (rn_s (rn_s (rn_e (cp _) (rn_s (rn_s (rn_s ?_)))))))
  obtain ⟨y0, hy0⟩ : ∃ y0, y0 = sA (sI (sI (sI (sR c8 0 st ho) 1 st 0) 2 st ((1 <<< ((cI c1 1 ho) &&& 31)) - 1)) 3 st 0) 4 st (va_cpy (cA c1 7 ho) (cA (sI (sI (sI (sR c8 0 st ho) 1 st 0) 2 st ((1 <<< ((cI c1 1 ho) &&& 31)) - 1)) 3 st 0) 4 st) 0 0 6) := ⟨_, rfl⟩
  rw [← hy0]
  obtain ⟨z, hz⟩ : ∃ z, z = sA (sA (sA y0 5 st (filf 6 (-1) (cA y0 5 st))) 6 st (filf 6 0 (cA (sA y0 5 st (filf 6 (-1) (cA y0 5 st))) 6 st))) 7 st (filf 6 1000000 (cA (sA (sA y0 5 st (filf 6 (-1) (cA y0 5 st))) 6 st (filf 6 0 (cA (sA y0 5 st (filf 6 (-1) (cA y0 5 st))) 6 st))) 7 st)) := ⟨_, rfl⟩
  rw [← hz]
  have z0 : cR z 0 st = ho := by rw [hz, hy0]; simp only [cI_sI, cI_sJ, cI_sR, cI_sA, cI_sB, cI_sQ, cR_sI, cR_sJ, cR_sR, cR_sA, cR_sB, cR_sQ, cA_sI, cA_sJ, cA_sR, cA_sA, cA_sB, cA_sQ, Nat.reduceEqDiff, false_and, and_false, and_true, true_and, if_false, if_true, and_self, ↓reduceIte]
  have z1 : cI z 1 st = nI 0 := by rw [hz, hy0]; simp only [cI_sI, cI_sJ, cI_sR, cI_sA, cI_sB, cI_sQ, cR_sI, cR_sJ, cR_sR, cR_sA, cR_sB, cR_sQ, cA_sI, cA_sJ, cA_sR, cA_sA, cA_sB, cA_sQ, Nat.reduceEqDiff, false_and, and_false, and_true, true_and, if_false, if_true, and_self, ↓reduceIte]; rfl
  have z2 : cI z 2 st = (1 <<< (nI D &&& 31)) - 1 := by rw [hz, hy0]; simp only [cI_sI, cI_sJ, cI_sR, cI_sA, cI_sB, cI_sQ, cR_sI, cR_sJ, cR_sR, cR_sA, cR_sB, cR_sQ, cA_sI, cA_sJ, cA_sR, cA_sA, cA_sB, cA_sQ, Nat.reduceEqDiff, false_and, and_false, and_true, true_and, if_false, if_true, and_self, ↓reduceIte]; rw [n1]
  have z3 : cI z 3 st = nI 0 := by rw [hz, hy0]; simp only [cI_sI, cI_sJ, cI_sR, cI_sA, cI_sB, cI_sQ, cR_sI, cR_sJ, cR_sR, cR_sA, cR_sB, cR_sQ, cA_sI, cA_sJ, cA_sR, cA_sA, cA_sB, cA_sQ, Nat.reduceEqDiff, false_and, and_false, and_true, true_and, if_false, if_true, and_self, ↓reduceIte]; rfl
  have z4 : ∀ j, j < 6 → cA z 4 st j = cA c1 7 ho j := fun j hj => by
    rw [hz, hy0]; simp only [cI_sI, cI_sJ, cI_sR, cI_sA, cI_sB, cI_sQ, cR_sI, cR_sJ, cR_sR, cR_sA, cR_sB, cR_sQ, cA_sI, cA_sJ, cA_sR, cA_sA, cA_sB, cA_sQ, Nat.reduceEqDiff, false_and, and_false, and_true, true_and, if_false, if_true, and_self, ↓reduceIte]; rw [pk_cpy_in (by omega) (by omega)]; congr 1; omega
  have z5 : ∀ j, j < 6 → cA z 5 st j = -1 := fun j hj => by rw [hz]; simp only [cI_sI, cI_sJ, cI_sR, cI_sA, cI_sB, cI_sQ, cR_sI, cR_sJ, cR_sR, cR_sA, cR_sB, cR_sQ, cA_sI, cA_sJ, cA_sR, cA_sA, cA_sB, cA_sQ, Nat.reduceEqDiff, false_and, and_false, and_true, true_and, if_false, if_true, and_self, ↓reduceIte]; unfold filf; rw [if_pos hj]
  have z6 : ∀ j, j < 6 → cA z 6 st j = 0 := fun j hj => by rw [hz]; simp only [cI_sI, cI_sJ, cI_sR, cI_sA, cI_sB, cI_sQ, cR_sI, cR_sJ, cR_sR, cR_sA, cR_sB, cR_sQ, cA_sI, cA_sJ, cA_sR, cA_sA, cA_sB, cA_sQ, Nat.reduceEqDiff, false_and, and_false, and_true, true_and, if_false, if_true, and_self, ↓reduceIte]; unfold filf; rw [if_pos hj]
  have z7 : ∀ j, j < 6 → cA z 7 st j = 1000000 := fun j hj => by rw [hz, cA_same]; unfold filf; rw [if_pos hj]
  have oz : Oth st c8 z := by rw [hz, hy0]; exact oth_tr (oth_tr (oth_tr (oth_tr (oth_tr oth_R oth_I) oth_I) oth_I) oth_A) (oth_tr oth_A (oth_tr oth_A oth_A))
  have hN : SnR c1 z st S R D H Q 0 := by
    unfold SnR
    rw [z0]
    exact ⟨⟨n0, by rw [s1 0 (by decide) (by decide)]; exact m0, r6⟩, ⟨n1, by rw [s1 1 (by decide) (by decide)]; exact m1, d10⟩, ⟨n2, by rw [s1 2 (by decide) (by decide)]; exact m2, h6⟩, ⟨n3, by rw [s1 3 (by decide) (by decide)]; exact m3, q6⟩, z1, by rw [s1 4 (by decide) (by decide)]; exact m4, by decide⟩
  have hD : SdR c1 z st S R D := fun i hi => by
    obtain ⟨x, y, hx, hy, hxy, a5, a6, b0, b1, b2⟩ := hd i hi
    rw [z0, z2, s1 _ (by omega) (by omega), s1 _ (by omega) (by omega), s1 _ (by omega) (by omega)]
    refine ⟨by rw [a5, b0], by rw [a6, b1], ?_, x, y, hx, hy, hxy, b0, b1⟩
    rw [b2]
    have key : ∀ D : Fin 11, ∀ i : Fin 11, i.val < D.val → bit1 ((1 <<< (nI D.val &&& 31)) - 1) (nI i.val) = 1 := by decide +kernel
    exact key ⟨D, by omega⟩ ⟨i, by omega⟩ hi
  obtain ⟨g, g1, g2⟩ := f_86 hN hD
  refine rn_e g1 ?_
  obtain ⟨z', hz'⟩ : ∃ z', z' = sA z 12 st g := ⟨_, rfl⟩
  rw [← hz']
  have kz' : Kp [12] z z' := by rw [hz']; exact kp_A (by decide)
  have oz' : Oth st z z' := by rw [hz']; exact oth_A
  have e0 : cR z' 0 st = ho := by rw [(kz' 0 (by decide)).2.2.1]; exact z0
  have eA : ∀ k, k ≠ 12 → cA z' k st = cA z k st := fun k hk => by rw [(kz' k (by simp; exact hk)).2.2.2.1]
  have hSA : SA c1 z' st S R D H Q 0 L 0 (fun r => (Y (76 + r)).toNatClampNeg) := by
    refine ⟨SnR_c (by rw [e0, z0]) (by rw [(kz' 1 (by decide)).1]) (fun _ _ => rfl) hN, fun h q => ?_, fun s q => ?_, fun r q => ?_, fun r q => ?_, SdR_c d10 (by rw [e0, z0]) (by rw [(kz' 2 (by decide)).1]) (fun _ _ _ => rfl) hD, ⟨by rw [(kz' 3 (by decide)).1]; exact z3, by decide, fun j q => absurd q (Nat.not_lt_zero _), fun f => ?_⟩, ⟨⟨by rw [e0]; exact hL, l9, fun _ => s7⟩, fun h q => ?_, fun r q => ?_, fun s q => ?_, ?_⟩, fun r q => ?_, fun r q => ?_⟩
    · obtain ⟨x, y, hx, y1, y4, a7, a8, t0, t1, t2, t3, t4, t5⟩ := hh h q
      rw [e0, eA 4 (by decide), eA 5 (by decide), eA 6 (by decide), eA 7 (by decide), z4 h (by omega), z5 h (by omega), z6 h (by omega), z7 h (by omega), s1 _ (by omega) (by omega), s1 _ (by omega) (by omega), s1 _ (by omega) (by omega), s1 _ (by omega) (by omega), s1 _ (by omega) (by omega), s1 _ (by omega) (by omega)]
      exact ⟨by rw [a7, t0], by rw [a8, t1], by rw [a7, t2], t3.symm, t4.symm, Or.inl ⟨t5, rfl⟩⟩
    · obtain ⟨x, x1, x2, x3, x4⟩ := hs s q
      rw [e0, s1 _ (by omega) (by omega), x3, x4]
    · obtain ⟨-, m, _, _, a, b⟩ := hr r (by omega)
      rw [e0, s1 _ (by omega) (by omega), a, b]
    · rw [hz', cA_same]; exact g2 r (by omega)
    · refine Eq.trans (su_congr (g := fun _ => (0 : Int32)) fun e q => ?_) (su_0 6)
      unfold ef
      rw [s2 (94 + 3 * e + 2) (by omega) (by omega), s1 4 (by decide) (by decide), m4, if_pos (by decide)]
    · obtain ⟨x, y, hx, y1, y4, a7, a8, t0, t1, t2, t3, t4, t5⟩ := hh h q
      rw [s1 _ (by omega) (by omega), s1 _ (by omega) (by omega), s1 _ (by omega) (by omega), s1 _ (by omega) (by omega)]
      exact ⟨⟨x, hx, t0⟩, ⟨y, y1, y4, t1⟩, ⟨x, hx, t2⟩, Or.inl t3⟩
    · obtain ⟨-, m, a1, a2, a, b⟩ := hr r (by omega)
      rw [s1 _ (by omega) (by omega)]
      exact ⟨m, a1, a2, b⟩
    · obtain ⟨x, x1, x2, x3, x4⟩ := hs s q
      rw [s1 _ (by omega) (by omega)]
      exact ⟨x, x1, x2, x4⟩
    · rw [s1 5 (by decide) (by decide), m5]
      refine Eq.symm (Eq.trans (su_congr (g := fun _ => (0 : Int32)) fun i q => ?_) (su_0 H))
      obtain ⟨x, y, hx, y1, y4, a7, a8, t0, t1, t2, t3, t4, t5⟩ := hh i q
      unfold gn1
      rw [s1 _ (by omega) (by omega), t4]
    · rw [e0, hf r (by omega)]
      refine su_congr fun i q => ?_
      unfold cf1
      rw [s1 _ (by omega) (by omega), s1 _ (by omega) (by omega)]
    · obtain ⟨⟨k, k5, a, b⟩, -⟩ := hr r (by omega)
      rw [e0, s1 _ (by omega) (by omega), a, b]
      show nI k = nI ((Y (76 + r)).toNatClampNeg) ∧ nI k = nI ((Y (76 + r)).toNatClampNeg) ∧ (Y (76 + r)).toNatClampNeg ≤ 5
      rw [b, nI_clamp (by omega)]
      exact ⟨rfl, rfl, k5⟩
  refine rk_ok hSA (fun t r a b q => absurd a (Nat.not_lt_zero _)) (fun c' cK cO cS => rn_r ⟨oth_tr oz (oth_tr oz' cO), by rw [(cK 0 (by decide)).2.2.1]; exact e0, cS⟩)
/-- what the reference's rows are behind a house -/
theorem gl_212b {cz : Cl} {Po : Int32 × Cl → Prop} (hY7 : (∃ L, L ≤ 9 ∧ cA cz 7 B2 7 = nI L) ∨ cA cz 7 B2 7 = -1) (r6 : R ≤ 6) (y0 : cA cz 7 B2 0 = nI R) (y2 : cA cz 7 B2 2 = nI H) (h6 : H ≤ 6) (y4 : cA cz 7 B2 4 = 0) (ks : ∀ (c' : Cl) (S : Nat → Int32) (L : Nat), Kp [20, 23] cz c' → L ≤ 9 → ((cA cz 7 B2 7 = nI L) ∨ (cA cz 7 B2 7 = -1 ∧ L = 3)) → S0R (cA cz 7 B2) S L → cA c' 20 B2 = kp S H 112 R → cI c' 23 B2 = 0 → Po (nI H, c')) : ∀ (m i : Nat) (c' : Cl), i + m = 94 → Kp [20] cz c' → (∀ j, j < i → cA c' 20 B2 j = cA cz 7 B2 j) → (∀ j, i ≤ j → j < 221 → cA c' 20 B2 j = 0) → Rn (G_212 B2 2 [nI i] [] [] c') Po
  | 0, i, c', hi, hK, h1, h2 => by
    have : i = 94 := by omega
    subst this
    have e7 : cA c' 20 B2 7 = cA cz 7 B2 7 := h1 7 (by decide)
    have fin : ∀ (t : Cl) (L : Nat), Kp [20] cz t → L ≤ 9 → ((cA cz 7 B2 7 = nI L) ∨ (cA cz 7 B2 7 = -1 ∧ L = 3)) → S0R (cA cz 7 B2) (cA t 20 B2) L → Rn (some (sI t 23 B2 0) >>= fun c12_13 => F_227 c12_13 B2 >>= fun r14 => ald (cA r14 20 B2) 221 2 >>= fun v15 => some (v15, r14)) Po := fun t L hT hL hc hS => by
      have es : cA (sI t 23 B2 0) 20 B2 = cA t 20 B2 := by rw [cA_sI]
      have f7 := f_227 (c := sI t 23 B2 0) (a := B2) (R := R) (H := H) (M := 0) (by rw [es, hS.1 0 (by decide) (by decide)]; exact y0) r6 (by rw [es, hS.1 2 (by decide) (by decide)]; exact y2) h6 (by rw [es, hS.1 4 (by decide) (by decide)]; exact y4) (by decide)
      rw [es] at f7
      refine rn_s (rn_e f7 (rn_e (v := nI H) ((ald_ok (i := 2) (by decide) (by decide)).trans ?_) (rn_r (ks _ (cA t 20 B2) L (kp_tr (kp_wd hT (by decide)) (kp_tr (kp_I (by decide)) (kp_A (by decide)))) hL hc hS ?_ ?_))))
      · rw [cA_same, kp_out (by omega), hS.1 2 (by decide) (by decide), y2]
      · rw [cA_same]
      · rw [cI_sA, cI_same]
    rw [G_212]
    refine rn_p (by decide) (rn_e (v := cA cz 7 B2 7) ((ald_ok (i := 7) (by decide) (by decide)).trans (by rw [e7])) ?_)
    rcases hY7 with ⟨L, l9, eL⟩ | e
    · refine rn_e (v := c') (if_pos (by rw [eL]; exact nI_pos' (by omega))) (fin c' L hK l9 (Or.inl eL) ⟨fun j hj _ => h1 j hj, by rw [e7]; exact eL, fun j a b => h2 j a b⟩)
    · refine rn_e (v := sA c' 20 B2 (upd (cA c' 20 B2) 7 3)) (in_neg (by rw [e]; decide) (ob_mk (ast_ok (i := 7) (by decide) (by decide)) rfl)) (fin _ 3 (kp_tr hK (kp_A (by decide))) (by decide) (Or.inr ⟨e, rfl⟩) ⟨fun j hj hn => ?_, ?_, fun j a b => ?_⟩)
      · rw [cA_same, pk_un hn]; exact h1 j hj
      · rw [cA_same, pk_us]; rfl
      · rw [cA_same, pk_un (by omega)]; exact h2 j a b
  | m + 1, i, c', hi, hK, h1, h2 => by
    rw [G_212]
    refine rn_n (show ¬ nI 94 ≤ nI i from nI_ge (by omega) (by decide)) (rn_e (v := cA cz 7 B2 i) ((ald_ok (by omega) (by decide)).trans (by rw [(hK 7 (by decide)).2.2.2.1])) (rn_st (by omega) (by decide) ?_))
    rw [nI_1]
    refine gl_212b hY7 r6 y0 y2 h6 y4 ks m (i + 1) _ (by omega) (kp_tr hK (kp_A (by decide))) (fun j hj => ?_) (fun j a b => ?_)
    · rw [cA_same]
      by_cases w : j = i
      · rw [w, pk_us]
      · rw [pk_un w]; exact h1 j (by omega)
    · rw [cA_same, pk_un (by omega)]; exact h2 j (by omega) b
theorem gl_212a {cz : Cl} {Po : Int32 × Cl → Prop} (ks : ∀ c', Kp [20] cz c' → (∀ j, j < 221 → cA c' 20 B2 j = 0) → Rn (G_212 B2 2 [0] [] [] c') Po) : ∀ (m i : Nat) (c' : Cl), i + m = 221 → Kp [20] cz c' → (∀ j, j < i → cA c' 20 B2 j = 0) → Rn (G_212 B2 1 [nI i] [] [] c') Po
  | 0, i, c', hi, hK, h1 => by
    have : i = 221 := by omega
    subst this
    rw [G_212]
    exact rn_p (by decide) (ks c' hK h1)
  | m + 1, i, c', hi, hK, h1 => by
    rw [G_212]
    refine rn_n (show ¬ nI 221 ≤ nI i from nI_ge (by omega) (by decide)) (rn_st (by omega) (by decide) ?_)
    rw [nI_1]
    refine gl_212a ks m (i + 1) _ (by omega) (kp_tr hK (kp_A (by decide))) (fun j hj => ?_)
    rw [cA_same]
    by_cases w : j = i
    · rw [w, pk_us]
    · rw [pk_un w]; exact h1 j (by omega)
theorem gl_212 {cz : Cl} {Po : Int32 × Cl → Prop} (ks : ∀ c', Kp [7] cz c' → (∀ j, j < 7 → cA c' 7 B2 j = 0) → Rn (G_212 B2 0 [nI 7] [] [] c') Po) : ∀ (m i : Nat) (c' : Cl), i + m = 7 → Kp [7] cz c' → (∀ j, j < i → cA c' 7 B2 j = 0) → Rn (G_212 B2 0 [nI i] [] [] c') Po
  | 0, i, c', hi, hK, h1 => by
    have : i = 7 := by omega
    subst this
    exact ks c' hK h1
  | m + 1, i, c', hi, hK, h1 => by
    rw [G_212]
    refine rn_n (show ¬ nI 7 ≤ nI i from nI_ge (by omega) (by decide)) (rn_st (by omega) (by decide) ?_)
    rw [nI_1]
    refine gl_212 ks m (i + 1) _ (by omega) (kp_tr hK (kp_A (by decide))) (fun j hj => ?_)
    rw [cA_same]
    by_cases w : j = i
    · rw [w, pk_us]
    · rw [pk_un w]; exact h1 j (by omega)
end Begin
