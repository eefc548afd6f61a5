/-! ===== the scene taken; the reference's situations ===== -/
section Scene3
variable {c1 c6 c8 c12 : Cl} {sc st B2 : Nat} {S : Nat → Int32} {R D H Q M L E : Nat} {K : Nat → Nat}
theorem f_52 {ho : Nat} (r6 : R ≤ 6) (q6 : Q ≤ 6) (h0 : cI c6 0 sc = nI R) (hQ : cI c1 3 ho = nI Q) (hh : ∀ s, s < Q → cA c1 11 ho s = S (88 + s)) : Rn (F_52 c1 c6 sc ho) (fun r => Kp [9] c6 r ∧ Oth sc c6 r ∧ ∀ x, x < R → cB r 9 sc x = lN (wt S x Q)) := by
  unfold F_52
  refine rn_s (gl_52a r6 q6 hQ hh (c0 := c6) Q 0 _ (by omega) (kp_B (by decide)) oth_B h0 (fun r q => ?_))
  rw [cB_same]; unfold filf; rw [if_pos (by omega)]; rfl
theorem q0_lt (hS : SR c1 c8 st S R D H Q M L E K) {h : Nat} (hh : h < H) (hl : ¬ lv S h = 0) : q0 S h < R := by
  obtain ⟨⟨x, hx, ex⟩, -⟩ := hS.1.2.2.2.2.2.2.2.1.2.1 h hh
  have r6 := hS.1.1.1.2.2
  unfold q0; rw [if_neg hl, ex, nI_clamp (by omega)]; exact hx
/-- the scene is taken -/
theorem take_ok (hS : SR c1 c8 st S R D H Q M L E K) : Rn (F_51 c1 c6 c8 sc st) (fun r => Kp [0, 1, 2, 3, 4, 5, 6, 7, 8, 9, 10, 11] c6 r ∧ Oth sc c6 r ∧ SC r sc S R D H Q ∧ AT r sc S R H (q0 S) ∧ cI r 3 sc = nI (cd R (fun i => q0 S (nbf S H i)) (lc S H))) := by
  obtain ⟨⟨n1, n2, r6⟩, ⟨-, -, d10⟩, ⟨n7, -, h6⟩, ⟨n10, -, q6⟩, -⟩ := id hS.1.1
  have ll := lc_le S H
  unfold F_51
  rw [n1]
  refine rn_s (rn_e (cpi_ok (sp := 0) (dp := 0) (z := 6) (by decide) (by decide) (by decide) (by decide)) (rn_e (cpi_ok (sp := 0) (dp := 0) (z := 6) (by decide) (by decide) (by decide) (by decide)) ?_))
  obtain ⟨c2, hc2⟩ : ∃ c2, c2 = sA (sA (sI c6 0 sc (nI R)) 7 sc (va_cpy (cA c1 10 (cR c8 0 st)) (cA (sI c6 0 sc (nI R)) 7 sc) 0 0 6)) 8 sc (va_cpy (cA c8 12 st) (cA (sA (sI c6 0 sc (nI R)) 7 sc (va_cpy (cA c1 10 (cR c8 0 st)) (cA (sI c6 0 sc (nI R)) 7 sc) 0 0 6)) 8 sc) 0 0 6) := ⟨_, rfl⟩
  rw [← hc2]
  have ci : ∀ {f g : Nat → Int32} {j : Nat}, j < 6 → va_cpy f g 0 0 6 j = f j := fun {f g j} h => by rw [pk_cpy_in (Nat.zero_le _) (by omega)]; rw [Nat.zero_add, Nat.sub_zero]
  have k2 : Kp [0, 7, 8] c6 c2 := by rw [hc2]; exact kp_tr (kp_I (by decide)) (kp_tr (kp_A (by decide)) (kp_A (by decide)))
  have o2 : Oth sc c6 c2 := by rw [hc2]; exact oth_tr oth_I (oth_tr oth_A oth_A)
  have e0 : cI c2 0 sc = nI R := by rw [hc2]; simp only [cI_sI, cI_sJ, cI_sR, cI_sA, cI_sB, cI_sQ, cR_sI, cR_sJ, cR_sR, cR_sA, cR_sB, cR_sQ, cA_sI, cA_sJ, cA_sR, cA_sA, cA_sB, cA_sQ, Nat.reduceEqDiff, false_and, and_false, and_true, true_and, if_false, if_true, and_self, ↓reduceIte]
  have e7 : ∀ r, r < R → cA c2 7 sc r = S (82 + r) := fun r q => by
    rw [hc2]; simp only [cI_sI, cI_sJ, cI_sR, cI_sA, cI_sB, cI_sQ, cR_sI, cR_sJ, cR_sR, cR_sA, cR_sB, cR_sQ, cA_sI, cA_sJ, cA_sR, cA_sA, cA_sB, cA_sQ, Nat.reduceEqDiff, false_and, and_false, and_true, true_and, if_false, if_true, and_self, ↓reduceIte]; rw [ci (by omega)]; exact hS.1.2.2.2.1 r q
  have e8 : ∀ r, r < R → cA c2 8 sc r = bs S (nI r) D := fun r q => by
    rw [hc2]; simp only [cI_sI, cI_sJ, cI_sR, cI_sA, cI_sB, cI_sQ, cR_sI, cR_sJ, cR_sR, cR_sA, cR_sB, cR_sQ, cA_sI, cA_sJ, cA_sR, cA_sA, cA_sB, cA_sQ, Nat.reduceEqDiff, false_and, and_false, and_true, true_and, if_false, if_true, and_self, ↓reduceIte]; rw [ci (by omega)]; exact hS.1.2.2.2.2.1 r q
  refine rn_b (f_52 (S := S) r6 q6 e0 n10 (fun s q => hS.1.2.2.1 s q)) (fun c3 ⟨k3, o3, w3⟩ => rn_s ?_)
  refine gl_51a hS (c0 := c3) (fun c4 k4 o4 l4 i4 => ?_) H 0 (sI c3 1 sc 0) (by omega) (kp_I (by decide)) oth_I (cI_same _ _ _ _) (fun i q => absurd q (Nat.not_lt_zero _))
  refine rn_s (rn_s ?_)
  have l5 : cI (sI (sI c4 2 sc 1) 3 sc 0) 1 sc = nI (lc S H) := by simp only [cI_sI, cI_sJ, cI_sR, cI_sA, cI_sB, cI_sQ, cR_sI, cR_sJ, cR_sR, cR_sA, cR_sB, cR_sQ, cA_sI, cA_sJ, cA_sR, cA_sA, cA_sB, cA_sQ, Nat.reduceEqDiff, false_and, and_false, and_true, true_and, if_false, if_true, and_self, ↓reduceIte]; exact l4
  rw [l5, show nI (lc S H) - 1 = px (lc S H) from Int32.sub_eq_add_neg _ _]
  have e04 : cI c4 0 sc = nI R := by rw [(k4 0 (by decide)).1, (k3 0 (by decide)).1]; exact e0
  refine gl_51b (c0 := sI (sI c4 2 sc 1) 3 sc 0) (R := R) (p := fun i => q0 S (nbf S H i)) (l := lc S H) (by omega) (by simp only [cI_sI, cI_sJ, cI_sR, cI_sA, cI_sB, cI_sQ, cR_sI, cR_sJ, cR_sR, cR_sA, cR_sB, cR_sQ, cA_sI, cA_sJ, cA_sR, cA_sA, cA_sB, cA_sQ, Nat.reduceEqDiff, false_and, and_false, and_true, true_and, if_false, if_true, and_self, ↓reduceIte]; exact e04) (fun i q => (i4 i q).2.2) (fun c5 k5 o5 s5 t5 p5 => ?_) (lc S H) 0 _ (by omega) (kp_rf _ _) (oth_rf _ _) (by simp only [cI_sI, cI_sJ, cI_sR, cI_sA, cI_sB, cI_sQ, cR_sI, cR_sJ, cR_sR, cR_sA, cR_sB, cR_sQ, cA_sI, cA_sJ, cA_sR, cA_sA, cA_sB, cA_sQ, Nat.reduceEqDiff, false_and, and_false, and_true, true_and, if_false, if_true, and_self, ↓reduceIte]; rfl) (by simp only [cI_sI, cI_sJ, cI_sR, cI_sA, cI_sB, cI_sQ, cR_sI, cR_sJ, cR_sR, cR_sA, cR_sB, cR_sQ, cA_sI, cA_sJ, cA_sR, cA_sA, cA_sB, cA_sQ, Nat.reduceEqDiff, false_and, and_false, and_true, true_and, if_false, if_true, and_self, ↓reduceIte]; rfl) (fun j q1 q2 => by omega)
  have k45 : Kp [2, 3, 6] c4 c5 := kp_tr (kp_tr (kp_I (by decide)) (kp_I (by decide))) k5
  have hSC : SC c5 sc S R D H Q := by
    refine ⟨by rw [(k45 0 (by decide)).1]; exact e04, by rw [(k45 1 (by decide)).1]; exact l4, s5, fun i q => ⟨by rw [(k45 4 (by decide)).2.2.2.1]; exact (i4 i q).1, by rw [(k45 5 (by decide)).2.2.2.1]; exact (i4 i q).2.1, p5 i q⟩, fun r q => ⟨?_, ?_, ?_⟩⟩
    · rw [(k45 7 (by decide)).2.2.2.1, (k4 7 (by decide)).2.2.2.1, (k3 7 (by decide)).2.2.2.1]; exact e7 r q
    · rw [(k45 8 (by decide)).2.2.2.1, (k4 8 (by decide)).2.2.2.1, (k3 8 (by decide)).2.2.2.1]; exact e8 r q
    · rw [(k45 9 (by decide)).2.2.2.2.1, (k4 9 (by decide)).2.2.2.2.1]; exact w3 r q
  rw [t5]
  refine rn_b (unf_ok (q := q0 S) r6 h6 (fun h a b => q0_lt hS a b) hSC) (fun c7 ⟨k7, o7, a7⟩ => rn_r ⟨?_, ?_, SC_k k7 (by decide) hSC, a7, by rw [(k7 3 (by decide)).1]; exact t5⟩)
  · exact kp_tr (kp_wd k2 (by decide)) (kp_tr (kp_wd k3 (by decide)) (kp_tr (kp_wd k4 (by decide)) (kp_tr (kp_wd k45 (by decide)) (kp_wd k7 (by decide)))))
  · exact oth_tr o2 (oth_tr o3 (oth_tr o4 (oth_tr (oth_tr (oth_tr oth_I oth_I) o5) o7)))
/-- whether one can go, as it is looked at -/
def cx (S : Nat → Int32) (H D : Nat) (q : Nat → Nat) (h r : Nat) : Int32 := if bit1 (bs S (nI (q h)) D) (nI r) = 0 then 0 else if S (82 + r) < la S H q (nI r) + S (40 + 6 * h + 1) then 0 else 1
theorem f_60 {q : Nat → Nat} {i r : Nat} (r6 : R ≤ 6) (h6 : H ≤ 6) (hi : i < lc S H) (hr : r < R) (hq : q (nbf S H i) < R) (hC : SC c6 sc S R D H Q) (hA : AT c6 sc S R H q) : F_60 c6 sc (nI i) (nI r) = some (cx S H D q (nbf S H i) r) := by
  have ll := lc_le S H
  obtain ⟨-, -, -, s3, s4⟩ := hC
  unfold F_60
  refine ob_mk (v := nI (q (nbf S H i))) ((ald_ok (by omega) (by decide)).trans (by rw [hA.1 i hi])) (ob_mk (v := bs S (nI (q (nbf S H i))) D) ((ald_ok (by omega) (by decide)).trans (by rw [(s4 _ hq).2.1])) ?_)
  by_cases w : ((bs S (nI (q (nbf S H i))) D >>> (nI r &&& 31)) &&& 1) = 1
  · have w1 : ¬ bit1 (bs S (nI (q (nbf S H i))) D) (nI r) = 0 := by unfold bit1; rw [if_pos w]; decide
    by_cases u : S (82 + r) < la S H q (nI r) + S (40 + 6 * nbf S H i + 1)
    · rw [show cx S H D q (nbf S H i) r = 0 by unfold cx; rw [if_neg w1, if_pos u]]
      exact ob_mk (in_pos w (ob_mk (v := la S H q (nI r)) ((ald_ok (by omega) (by decide)).trans (by rw [hA.2 r hr])) (ob_mk (v := S (40 + 6 * nbf S H i + 1)) ((ald_ok (by omega) (by decide)).trans (by rw [(s3 i hi).2.1])) (ob_mk (v := S (82 + r)) ((ald_ok (by omega) (by decide)).trans (by rw [(s4 r hr).1])) (in_pos u rfl))))) rfl
    · rw [show cx S H D q (nbf S H i) r = 1 by unfold cx; rw [if_neg w1, if_neg u]]
      exact ob_mk (in_pos w (ob_mk (v := la S H q (nI r)) ((ald_ok (by omega) (by decide)).trans (by rw [hA.2 r hr])) (ob_mk (v := S (40 + 6 * nbf S H i + 1)) ((ald_ok (by omega) (by decide)).trans (by rw [(s3 i hi).2.1])) (ob_mk (v := S (82 + r)) ((ald_ok (by omega) (by decide)).trans (by rw [(s4 r hr).1])) (in_neg u rfl))))) rfl
  · rw [show cx S H D q (nbf S H i) r = 0 by unfold cx; rw [if_pos (by unfold bit1; rw [if_neg w])]]
    exact ob_mk (in_neg w rfl) rfl
theorem f_59 {x : Nat} {p : Int32} (r6 : R ≤ 6) (hx : x < R) (hC : SC c6 sc S R D H Q) : F_59 c6 sc (nI x) p = some (bit1 (bs S (nI x) D) p) := by
  unfold F_59
  refine ob_mk (v := bs S (nI x) D) ((ald_ok (by omega) (by decide)).trans (by rw [(hC.2.2.2.2 x hx).2.1])) ?_
  unfold bit1
  by_cases w : ((bs S (nI x) D >>> (p &&& 31)) &&& 1) = 1
  · rw [if_pos w, if_pos w]; rfl
  · rw [if_neg w, if_neg w]; rfl
theorem gl_61 {h : Nat} (h6 : H ≤ 6) (hh : h < H) (hl : ¬ lv S h = 0) (hC : SC c6 sc S R D H Q) : ∀ m i, i + m = lc S h → G_61 c6 sc 0 [nI h, nI i] [] [] = some (nI (lc S h))
  | 0, i, hi => by
    have : i = lc S h := by omega
    subst this
    have l1 := lc_lt hh hl
    have ll := lc_le S H
    rw [G_61]
    refine in_neg (by rw [hC.2.1]; exact nI_ge (by omega) (by omega)) (ob_mk (v := nI h) ((ald_ok (by omega) (by decide)).trans (by rw [(hC.2.2.2.1 _ l1).1, nbf_lc hh hl])) (in_pos rfl rfl))
  | m + 1, i, hi => by
    have ih := gl_61 h6 hh hl hC m (i + 1) (by omega)
    have l1 := lc_lt hh hl
    have ll := lc_le S H
    obtain ⟨b1, b2, b3⟩ := nbf_ok (S := S) (n := H) (i := i) (by omega)
    rw [G_61]
    refine in_neg (by rw [hC.2.1]; exact nI_ge (by omega) (by omega)) (ob_mk (v := nI (nbf S H i)) ((ald_ok (by omega) (by decide)).trans (by rw [(hC.2.2.2.1 i (by omega)).1])) (in_neg (fun e => ?_) (by rw [nI_1]; exact ih)))
    have := (nI_eq (by omega) (by omega)).mp e
    rw [this] at b3
    omega
theorem f_61 {h : Nat} (h6 : H ≤ 6) (hh : h < H) (hl : ¬ lv S h = 0) (hC : SC c6 sc S R D H Q) : F_61 c6 sc (nI h) = some (nI (lc S h)) := by
  unfold F_61
  exact gl_61 h6 hh hl hC (lc S h) 0 (by omega)
/-- the reference: powers of six -/
def Pw (c12 : Cl) (B2 : Nat) : Prop := ∀ h, h < 6 → cA c12 25 B2 h = nI (6 ^ (5 - h))
theorem gl_255 {q : Nat → Nat} (hq : ∀ h, h < 6 → q h < 6) {c0 : Cl} (hP : Pw c0 B2) : ∀ (m i : Nat) (c' : Cl), i + m = 6 → Kp [24] c0 c' → (∀ h, h < i → cA c' 24 B2 h = nI (q h)) → Rn (G_255 B2 0 [nI (cd 6 q 6), nI i] [] [] c') (fun r => Kp [24] c0 r ∧ ∀ h, h < 6 → cA r 24 B2 h = nI (q h))
  | 0, i, c', hi, hK, h1 => by
    have : i = 6 := by omega
    subst this
    rw [G_255]
    exact rn_p (by decide) (rn_r ⟨hK, h1⟩)
  | m + 1, i, c', hi, hK, h1 => by
    have lt := cd_lt (b := 6) (p := q) (n := 6) hq
    have l3 : (6 : Nat) ^ 6 = 46656 := rfl
    have p0 : 0 < 6 ^ (5 - i) := Nat.pow_pos (by decide)
    have p1 : 6 ^ (5 - i) ≤ 6 ^ 6 := Nat.pow_le_pow_right (by decide) (by omega)
    have e : cd 6 q 6 / 6 ^ (5 - i) % 6 = q i := dg_cd (b := 6) (p := q) (n := 6) (by decide) hq i (by omega)
    have dl : cd 6 q 6 / 6 ^ (5 - i) ≤ cd 6 q 6 := Nat.div_le_self _ _
    rw [G_255, (hK 25 (by decide)).2.2.2.1]
    refine rn_n (show ¬ (6 : Int32) ≤ nI i from nI_ge (a := i) (b := 6) (by omega) (by decide)) (rn_ld (by omega) (by decide) ?_)
    rw [hP i (by omega)]
    refine rn_e (v := nI (cd 6 q 6 / 6 ^ (5 - i))) ?_ (rn_e (v := nI (q i)) ((irm_ok (y := 6) (by omega) (by decide) (by decide)).trans (by rw [e])) (rn_st (by omega) (by decide) ?_))
    · unfold idv
      rw [if_neg (nI_ne0 p0 (by omega)), pk_div (by omega) p0 (by omega)]
    · rw [nI_1]
      refine gl_255 hq hP m (i + 1) _ (by omega) (kp_tr hK (kp_A (by decide))) (fun h z => ?_)
      rw [cA_same]
      by_cases w : h = i
      · subst w; rw [pk_us]
      · rw [pk_un w]; exact h1 h (by omega)
theorem f_255 {q : Nat → Nat} (hq : ∀ h, h < 6 → q h < 6) (hP : Pw c12 B2) : Rn (F_255 c12 B2 (nI (cd 6 q 6))) (fun r => Kp [24] c12 r ∧ ∀ h, h < 6 → cA r 24 B2 h = nI (q h)) := by
  unfold F_255
  exact gl_255 hq hP 6 0 c12 rfl (kp_rf _ _) (fun h z => absurd z (Nat.not_lt_zero _))
/-- the situation of now, over all heads -/
def qx (S : Nat → Int32) (H : Nat) (q : Nat → Nat) (h : Nat) : Nat := if h < H then (if lv S h = 0 then 0 else q h) else 0
theorem cd_ext {b : Nat} {p : Nat → Nat} {n : Nat} : ∀ k, (∀ j, n ≤ j → p j = 0) → cd b p (n + k) = cd b p n * b ^ k
  | 0, _ => by rw [Nat.pow_zero, Nat.mul_one]; rfl
  | k + 1, h => by
    show cd b p (n + k) * b + p (n + k) = _
    rw [cd_ext k h, h _ (by omega), Nat.add_zero, Nat.pow_succ, Nat.mul_assoc]
/-- numbers added from the first on, each with its power -/
theorem gl_256 (hS : SR c1 c8 st (cA c12 20 B2) R D H Q M L E K) (hP : Pw c12 B2) : ∀ m i, i + m = H → G_256 c12 B2 0 [nI (cd 6 (qx (cA c12 20 B2) H (q0 (cA c12 20 B2))) i * 6 ^ (6 - i)), nI i] [] [] = some (nI (cd 6 (qx (cA c12 20 B2) H (q0 (cA c12 20 B2))) 6))
  | 0, i, hi => by
    have : i = H := by omega
    subst this
    obtain ⟨-, -, ⟨-, hH, h6⟩, -⟩ := hS.1.1
    rw [G_256]
    refine ob_mk al_2 (in_pos (by rw [hH]; exact nI_le (Nat.le_refl _) (by omega)) ?_)
    have := cd_ext (b := 6) (p := qx (cA c12 20 B2) i (q0 (cA c12 20 B2))) (n := i) (6 - i) (fun j z => by unfold qx; rw [if_neg (by omega)])
    rw [show i + (6 - i) = 6 by omega] at this
    rw [this]
  | m + 1, i, hi => by
    have ih := gl_256 hS hP m (i + 1) (by omega)
    obtain ⟨⟨-, -, r6⟩, -, ⟨-, hH, h6⟩, -⟩ := hS.1.1
    obtain ⟨⟨x, hx, ex⟩, -⟩ := hS.1.2.2.2.2.2.2.2.1.2.1 i (by omega)
    have e6 : (6 : Nat) ^ (6 - i) = 6 * 6 ^ (5 - i) := by rw [show 6 - i = 5 - i + 1 by omega, Nat.pow_succ, Nat.mul_comm]
    have st : ∀ v, qx (cA c12 20 B2) H (q0 (cA c12 20 B2)) i = v → cd 6 (qx (cA c12 20 B2) H (q0 (cA c12 20 B2))) (i + 1) * 6 ^ (6 - (i + 1)) = cd 6 (qx (cA c12 20 B2) H (q0 (cA c12 20 B2))) i * 6 ^ (6 - i) + 6 ^ (5 - i) * v := fun v hv => by
      show (cd 6 (qx (cA c12 20 B2) H (q0 (cA c12 20 B2))) i * 6 + qx (cA c12 20 B2) H (q0 (cA c12 20 B2)) i) * 6 ^ (6 - (i + 1)) = _
      rw [hv, show 6 - (i + 1) = 5 - i by omega, e6, Nat.add_mul, Nat.mul_assoc, Nat.mul_comm v]
    rw [G_256]
    refine ob_mk al_2 (in_neg (by rw [hH]; exact nI_ge (by omega) (by omega)) (ob_mk (f_224 (by omega)) ?_))
    by_cases w : lv (cA c12 20 B2) i = 0
    · refine ob_mk (v := 0) (in_pos w rfl) ?_
      rw [Int32.add_zero, nI_1]
      rw [st 0 (by unfold qx; rw [if_pos (by omega), if_pos w]), Nat.mul_zero, Nat.add_zero] at ih
      exact ih
    · refine ob_mk (v := nI (6 ^ (5 - i) * x)) (in_neg w (ob_mk (v := nI (6 ^ (5 - i))) ((ald_ok (by omega) (by decide)).trans (by rw [hP i (by omega)])) (ob_mk (f_223 (w := 0) (by omega) (by decide)) (by rw [ex, pk_mul])))) ?_
      rw [nI_add, nI_1]
      rw [st x (by unfold qx q0; rw [if_pos (by omega), if_neg w, if_neg w, ex, nI_clamp (by omega)])] at ih
      exact ih
theorem f_256 (hS : SR c1 c8 st (cA c12 20 B2) R D H Q M L E K) (hP : Pw c12 B2) : F_256 c12 B2 = some (nI (cd 6 (qx (cA c12 20 B2) H (q0 (cA c12 20 B2))) 6)) := by
  unfold F_256
  have := gl_256 hS hP H 0 (by omega)
  rw [show cd 6 (qx (cA c12 20 B2) H (q0 (cA c12 20 B2))) 0 * 6 ^ (6 - 0) = 0 from Nat.zero_mul _] at this
  exact this
/-- halves of the living in a room, by the reference -/
theorem gl_258 {q : Nat → Nat} {x : Int32} {c : Cl} (hH : cA c 20 B2 2 = nI H) (h6 : H ≤ 6) (h24 : ∀ h, h < H → ¬ lv (cA c 20 B2) h = 0 → cA c 24 B2 h = nI (q h)) : ∀ m i, i + m = H → G_258 c B2 0 [x, su (fun h => if lv (cA c 20 B2) h = 0 then 0 else la1 (cA c 20 B2) q x h) i, nI i] [] [] = some (la (cA c 20 B2) H q x)
  | 0, i, hi => by
    have : i = H := by omega
    subst this
    rw [G_258]
    exact ob_mk al_2 (in_pos (by rw [hH]; exact nI_le (Nat.le_refl _) (by omega)) rfl)
  | m + 1, i, hi => by
    have ih := gl_258 (x := x) hH h6 h24 m (i + 1) (by omega)
    rw [G_258]
    refine ob_mk al_2 (in_neg (by rw [hH]; exact nI_ge (by omega) (by omega)) (ob_mk (f_224 (by omega)) (ob_mk (v := if lv (cA c 20 B2) i = 0 then 0 else la1 (cA c 20 B2) q x i) ?_ (by rw [nI_1]; exact ih))))
    by_cases w : lv (cA c 20 B2) i = 0
    · rw [if_pos w, if_pos w]
    · rw [if_neg w, if_neg w]
      refine ob_mk (v := nI (q i)) ((ald_ok (by omega) (by decide)).trans (by rw [h24 i (by omega) w])) ?_
      unfold la1
      by_cases u : nI (q i) = x
      · rw [if_pos u, if_pos u]; exact ob_mk (f_223 (w := 1) (by omega) (by decide)) rfl
      · rw [if_neg u, if_neg u]
theorem f_258 {q : Nat → Nat} {x : Int32} {c : Cl} (hH : cA c 20 B2 2 = nI H) (h6 : H ≤ 6) (h24 : ∀ h, h < H → ¬ lv (cA c 20 B2) h = 0 → cA c 24 B2 h = nI (q h)) : F_258 c B2 x = some (la (cA c 20 B2) H q x) := by
  unfold F_258
  exact gl_258 hH h6 h24 H 0 (by omega)
/-- whether one can step, by the reference -/
theorem f_260 {q : Nat → Nat} {c : Cl} {h r : Nat} (hH : cA c 20 B2 2 = nI H) (h6 : H ≤ 6) (hD : cA c 20 B2 1 = nI D) (d10 : D ≤ 10) (h24 : ∀ h, h < H → ¬ lv (cA c 20 B2) h = 0 → cA c 24 B2 h = nI (q h)) (hh : h < H) (hr : r < 6) : F_260 c B2 (nI h) (nI r) = some (if lv (cA c 20 B2) h = 0 then 0 else cx (cA c 20 B2) H D q h r) := by
  unfold F_260
  refine ob_mk (f_224 (by omega)) ?_
  by_cases w : lv (cA c 20 B2) h = 0
  · rw [if_pos w, if_pos w]; rfl
  · rw [if_neg w, if_neg w]
    have i82 : (82 : Int32) + nI r = nI (82 + r) := nI_add 82 r
    rw [i82]
    refine ob_mk (v := cx (cA c 20 B2) H D q h r) (ob_mk (v := nI (q h)) ((ald_ok (by omega) (by decide)).trans (by rw [h24 h hh w])) (ob_mk (f_232 hD d10) (ob_mk (f_171 _ _) ?_))) ?_
    · unfold cx
      by_cases u : bit1 (bs (cA c 20 B2) (nI (q h)) D) (nI r) = 0
      · rw [if_pos u, if_pos u]
      · rw [if_neg u, if_neg u]
        refine ob_mk (f_258 hH h6 h24) (ob_mk (f_223 (w := 1) (by omega) (by decide)) (ob_mk (ald_ok (by omega) (by decide)) ?_))
        by_cases y : cA c 20 B2 (82 + r) < la (cA c 20 B2) H q (nI r) + cA c 20 B2 (40 + 6 * h + 1)
        · rw [if_pos y, if_pos y]
        · rw [if_neg y, if_neg y]
    · unfold cx
      split
      · rfl
      · split <;> rfl
end Scene3
