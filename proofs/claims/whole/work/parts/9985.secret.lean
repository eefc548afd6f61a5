/-! ===== secret: the class; and what nobody feels, by the reference ===== -/
/-- whether all rooms hold -/
def hlb (S : Nat → Int32) (H : Nat) (q : Nat → Nat) : Nat → Bool
  | 0 => true
  | n + 1 => hlb S H q n && decide (nI (laN S H q n) ≤ S (82 + n))
theorem hlb_cg {S : Nat → Int32} {H : Nat} {q q' : Nat → Nat} (h : ∀ k, k < H → ¬ lv S k = 0 → q k = q' k) : ∀ n, hlb S H q n = hlb S H q' n
  | 0 => rfl
  | n + 1 => by show (hlb S H q n && _) = (hlb S H q' n && _); rw [hlb_cg h n, laN_cg h]
theorem hlb_f {S : Nat → Int32} {H : Nat} {q : Nat → Nat} {i : Nat} : ∀ {k : Nat}, i ≤ k → hlb S H q i = false → hlb S H q k = false
  | 0, h, e => by have : i = 0 := by omega
                  subst this; exact e
  | k + 1, h, e => by
    by_cases w : i = k + 1
    · subst w; exact e
    · show (hlb S H q k && _) = false
      rw [hlb_f (show i ≤ k by omega) e]; rfl
/-- the best so far: how many go, and to where -/
def mgS (l : Nat) : Option (Nat × Nat) → Nat
  | none => l
  | some x => x.1 - 1
def lfS (S : Nat → Int32) (R H Q : Nat) (a q : Nat → Nat) (x : Option (Nat × Nat)) : Option (Nat × Nat) := if gn S H a q ≠ 0 ∧ gn S H a q ≤ mgS (lc S H) x ∧ se S H Q q = se S H Q a ∧ hlb S H q R = true then some (gn S H a q, kc S R H q) else x
section Secret
variable {c0 c1 c6 c8 c13 : Cl} {d : Ad} {sc st cr B2 : Nat} {S : Nat → Int32} {R D H Q M L E : Nat} {K : Nat → Nat} {a : Nat → Nat}
theorem lfS_no {q : Nat → Nat} {x : Option (Nat × Nat)} (h : mgS (lc S H) x < gn S H a q) : lfS S R H Q a q x = x := by
  unfold lfS; rw [if_neg (fun z => by omega)]
theorem lfS_cg {q q' : Nat → Nat} {x : Option (Nat × Nat)} (h : ∀ k, k < H → ¬ lv S k = 0 → q k = q' k) : lfS S R H Q a q x = lfS S R H Q a q' x := by
  unfold lfS
  rw [gn_cg h, se_cg h, hlb_cg h, kc_cg h]
theorem gl_7 {q : Nat → Nat} (r6 : R ≤ 6) (e0 : cI c6 0 (cR c0 0 cr) = nI R) (h7 : ∀ y, y < R → cA c6 7 (cR c0 0 cr) y = S (82 + y)) (h11 : ∀ y, y < R → cA c6 11 (cR c0 0 cr) y = nI (laN S H q y)) : ∀ m i, i + m = R → hlb S H q i = true → G_7 c0 c6 cr 0 [nI i] [] [] = some (if hlb S H q R = true then 1 else 0)
  | 0, i, hi, hb => by
    have : i = R := by omega
    subst this
    rw [G_7, e0, if_pos hb]
    exact in_pos (nI_le (Nat.le_refl _) (by omega)) rfl
  | m + 1, i, hi, hb => by
    have ih := gl_7 r6 e0 h7 h11 m (i + 1) (by omega)
    rw [G_7, e0]
    refine in_neg (nI_ge (by omega) (by omega)) (ob_mk (v := nI (laN S H q i)) ((ald_ok (by omega) (by decide)).trans (by rw [h11 i (by omega)])) (ob_mk (v := S (82 + i)) ((ald_ok (by omega) (by decide)).trans (by rw [h7 i (by omega)])) ?_))
    have e1 : hlb S H q (i + 1) = (hlb S H q i && decide (nI (laN S H q i) ≤ S (82 + i))) := rfl
    by_cases w : nI (laN S H q i) ≤ S (82 + i)
    · refine in_pos w ?_
      rw [nI_1]
      exact ih (by rw [e1, hb, decide_eq_true w]; rfl)
    · refine in_neg w ?_
      rw [hlb_f (show i + 1 ≤ R by omega) (by rw [e1, hb, decide_eq_false w]; rfl)]; rfl
/-- the object that crosses, while a secret is sought -/
def relS (c0z c13z : Cl) (cr sc : Nat) (S : Nat → Int32) (H Q mo aim s0 : Nat) (a : Nat → Nat) (x : Option (Nat × Nat)) (c0 c13 : Cl) : Prop := c13 = c13z ∧ Kp [1, 3, 6] c0z c0 ∧ Oth cr c0z c0 ∧ (cR c0 0 cr = sc ∧ cI c0 8 cr = 0 ∧ cI c0 7 cr = 0 ∧ cI c0 4 cr = nI (lc S mo) ∧ cI c0 5 cr = nI aim ∧ cJ c0 9 cr = lN (se S H Q a)) ∧ cI c0 6 cr = nI (mgS (lc S H) x) ∧ (match x with | none => cI c0 1 cr = -2 | some y => 1 ≤ y.1 ∧ y.1 ≤ 6 ∧ cI c0 1 cr = nI y.1 ∧ cI c0 3 cr = nI y.2)
theorem leafS {c0z c13z c6z : Cl} {mo aim s0 : Nat} {q : Nat → Nat} {x : Option (Nat × Nat)} (hS : SR c1 c8 st S R D H Q M L E K) (hC : SC c6z sc S R D H Q) (h1 : relS c0z c13z cr sc S H Q mo aim s0 a x c0 c13) (h2 : CtA c6z c6 sc S R H q) : Rn (F_6 c0 c6 c13 d cr (nI (kc S R H q)) (nI (gn S H a q)) (lN (se S H Q q))) (fun r => relS c0z c13z cr sc S H Q mo aim s0 a (lfS S R H Q a q x) r.1 r.2) := by
  obtain ⟨⟨-, -, r6⟩, -, ⟨-, -, h6⟩, -⟩ := id hS.1.1
  have ll := lc_le S H
  obtain ⟨e13, k0, o0, ⟨f0, f8, f7, f4, f5, f9⟩, f6, fx⟩ := id h1
  have gl := gn_le (S := S) (H := H) (a := a) (q := q)
  have m6 : mgS (lc S H) x ≤ 6 := by
    cases x with
    | none => show lc S H ≤ 6; omega
    | some y => show y.1 - 1 ≤ 6; have := fx.2.1; omega
  have no : ¬ (gn S H a q ≠ 0 ∧ gn S H a q ≤ mgS (lc S H) x ∧ se S H Q q = se S H Q a ∧ hlb S H q R = true) → relS c0z c13z cr sc S H Q mo aim s0 a (lfS S R H Q a q x) c0 c13 := fun z => by unfold lfS; rw [if_neg z]; exact h1
  unfold F_6
  by_cases w1 : gn S H a q = 0
  · exact rn_p (by rw [w1]; rfl) (rn_r (no fun z => z.1 w1))
  refine rn_n (nI_ne0 (by omega) (by omega)) ?_
  rw [f6]
  by_cases w2 : gn S H a q ≤ mgS (lc S H) x
  · refine rn_n (nI_nlt w2 (by omega)) ?_
    rw [f9]
    have s1 := se_lt hS (q := q)
    have s2 := se_lt hS (q := a)
    by_cases w3 : se S H Q q = se S H Q a
    · refine rn_p ((lg_cmp_eq _ _).mpr (by rw [w3])) ?_
      have g7 : F_7 c0 c6 cr = some (if hlb S H q R = true then 1 else 0) := by
        unfold F_7
        exact gl_7 (R := R) r6 (by rw [f0, (h2.1 0 (by decide)).1]; exact hC.1) (fun y hy => by rw [f0, (h2.1 7 (by decide)).2.2.2.1]; exact (hC.2.2.2.2 y hy).1) (fun y hy => by rw [f0]; exact h2.2.2 y hy) R 0 (by omega) rfl
      refine rn_e g7 ?_
      by_cases w4 : hlb S H q R = true
      · rw [if_pos w4]
        refine rn_n (by decide) (rn_e (in_pos f7 (ob_mk rfl (ob_mk rfl (ob_mk rfl rfl)))) (rn_r ?_))
        have el : lfS S R H Q a q x = some (gn S H a q, kc S R H q) := by unfold lfS; rw [if_pos ⟨w1, w2, w3, w4⟩]
        rw [el]
        refine ⟨e13, kp_tr k0 (kp_tr (kp_I (by decide)) (kp_tr (kp_I (by decide)) (kp_I (by decide)))), oth_tr o0 (oth_tr oth_I (oth_tr oth_I oth_I)), ⟨?_, ?_, ?_, ?_, ?_, ?_⟩, ?_, by show 1 ≤ gn S H a q; omega, by show gn S H a q ≤ 6; omega, ?_, ?_⟩
        · exact f0
        · simp only [cI_sI, cI_sJ, cI_sR, cI_sA, cI_sB, cI_sQ, cR_sI, cR_sJ, cR_sR, cR_sA, cR_sB, cR_sQ, cA_sI, cA_sJ, cA_sR, cA_sA, cA_sB, cA_sQ, Nat.reduceEqDiff, false_and, and_false, and_true, true_and, if_false, if_true, and_self, ↓reduceIte]; exact f8
        · simp only [cI_sI, cI_sJ, cI_sR, cI_sA, cI_sB, cI_sQ, cR_sI, cR_sJ, cR_sR, cR_sA, cR_sB, cR_sQ, cA_sI, cA_sJ, cA_sR, cA_sA, cA_sB, cA_sQ, Nat.reduceEqDiff, false_and, and_false, and_true, true_and, if_false, if_true, and_self, ↓reduceIte]; exact f7
        · simp only [cI_sI, cI_sJ, cI_sR, cI_sA, cI_sB, cI_sQ, cR_sI, cR_sJ, cR_sR, cR_sA, cR_sB, cR_sQ, cA_sI, cA_sJ, cA_sR, cA_sA, cA_sB, cA_sQ, Nat.reduceEqDiff, false_and, and_false, and_true, true_and, if_false, if_true, and_self, ↓reduceIte]; exact f4
        · simp only [cI_sI, cI_sJ, cI_sR, cI_sA, cI_sB, cI_sQ, cR_sI, cR_sJ, cR_sR, cR_sA, cR_sB, cR_sQ, cA_sI, cA_sJ, cA_sR, cA_sA, cA_sB, cA_sQ, Nat.reduceEqDiff, false_and, and_false, and_true, true_and, if_false, if_true, and_self, ↓reduceIte]; exact f5
        · exact f9
        · simp only [cI_sI, cI_sJ, cI_sR, cI_sA, cI_sB, cI_sQ, cR_sI, cR_sJ, cR_sR, cR_sA, cR_sB, cR_sQ, cA_sI, cA_sJ, cA_sR, cA_sA, cA_sB, cA_sQ, Nat.reduceEqDiff, false_and, and_false, and_true, true_and, if_false, if_true, and_self, ↓reduceIte]; exact nI_m1 (by omega)
        · simp only [cI_sI, cI_sJ, cI_sR, cI_sA, cI_sB, cI_sQ, cR_sI, cR_sJ, cR_sR, cR_sA, cR_sB, cR_sQ, cA_sI, cA_sJ, cA_sR, cA_sA, cA_sB, cA_sQ, Nat.reduceEqDiff, false_and, and_false, and_true, true_and, if_false, if_true, and_self, ↓reduceIte]
        · simp only [cI_sI, cI_sJ, cI_sR, cI_sA, cI_sB, cI_sQ, cR_sI, cR_sJ, cR_sR, cR_sA, cR_sB, cR_sQ, cA_sI, cA_sJ, cA_sR, cA_sA, cA_sB, cA_sQ, Nat.reduceEqDiff, false_and, and_false, and_true, true_and, if_false, if_true, and_self, ↓reduceIte]
      · rw [if_neg w4]
        exact rn_p rfl (rn_r (no fun z => w4 z.2.2.2))
    · exact rn_n (fun z => w3 ((pk_lEQ (by omega) (by omega)).mp ((lg_cmp_eq _ _).mp z))) (rn_r (no fun z => w3 z.2.2.1))
  · exact rn_p (nI_lt (by omega) (by omega)) (rn_r (no fun z => w2 z.2.1))
/-- counts of all senses alike, in one number and one by one -/
theorem se_eq (hS : SR c1 c8 st S R D H Q M L E K) {q : Nat → Nat} : se S H Q q = se S H Q a ↔ ∀ s, s < Q → lb S H q s = lb S H a s := by
  constructor
  · intro h s hs
    have e1 := dgl (b := lb S H q) (k := s) (n := Q) (fun s _ => by have := lb_24 hS (q := q) (s := s); omega) hs
    have e2 := dgl (b := lb S H a) (k := s) (n := Q) (fun s _ => by have := lb_24 hS (q := a) (s := s); omega) hs
    rw [← se_lb] at e1 e2
    rw [← e1, ← e2, h]
  · intro h
    rw [se_lb, se_lb]
    exact sn_cg fun s hs => by rw [h s hs]
/-- nobody feels it, by the reference -/
theorem gl_276b {c : Cl} {q : Nat → Nat} (hS : SR c1 c8 st S R D H Q M L E K) (eS : cA c 20 B2 = S) (hq : Qok S R H q) (h24 : ∀ h, h < H → ¬ lv S h = 0 → cA c 24 B2 h = nI (q h)) : ∀ m i, i + m = R → hlb S H q i = true → G_276 c B2 1 [nI i] [] [] = some (if hlb S H q R = true then 1 else 0)
  | 0, i, hi, hb => by
    have : i = R := by omega
    subst this
    obtain ⟨⟨-, hR, r6⟩, -⟩ := id hS.1.1
    rw [G_276, eS, if_pos hb]
    exact ob_mk al_0 (in_pos (by rw [hR]; exact nI_le (Nat.le_refl _) (by omega)) rfl)
  | m + 1, i, hi, hb => by
    have ih := gl_276b hS eS hq h24 m (i + 1) (by omega)
    obtain ⟨⟨-, hR, r6⟩, -, ⟨-, hH, h6⟩, -⟩ := id hS.1.1
    rw [G_276, eS, show (82 : Int32) + nI i = nI (82 + i) from nI_add 82 i]
    refine ob_mk al_0 (in_neg (by rw [hR]; exact nI_ge (by omega) (by omega)) (ob_mk (v := nI (laN S H q i)) ((f_258 (q := q) (by rw [eS]; exact hH) h6 (by rw [eS]; exact h24)).trans (by rw [eS, la_nI hS hq (by omega)])) (ob_mk (ald_ok (by omega) (by decide)) ?_)))
    have e1 : hlb S H q (i + 1) = (hlb S H q i && decide (nI (laN S H q i) ≤ S (82 + i))) := rfl
    by_cases w : nI (laN S H q i) ≤ S (82 + i)
    · refine in_pos w ?_
      rw [nI_1]
      exact ih (by rw [e1, hb, decide_eq_true w]; rfl)
    · refine in_neg w ?_
      rw [hlb_f (show i + 1 ≤ R by omega) (by rw [e1, hb, decide_eq_false w]; rfl)]; rfl
theorem gl_276a {c : Cl} {q : Nat → Nat} (hS : SR c1 c8 st S R D H Q M L E K) (eS : cA c 20 B2 = S) (hq : Qok S R H q) (h24 : ∀ h, h < H → ¬ lv S h = 0 → cA c 24 B2 h = nI (q h)) (h33 : ∀ s, s < Q → cA c 33 B2 s = nI (lb S H a s)) : ∀ m i, i + m = Q → (∀ s, s < i → lb S H q s = lb S H a s) → G_276 c B2 0 [nI i] [] [] = some (if se S H Q q = se S H Q a ∧ hlb S H q R = true then 1 else 0)
  | 0, i, hi, hb => by
    have : i = Q := by omega
    subst this
    obtain ⟨⟨-, hR, r6⟩, -, -, ⟨-, hQ, q6⟩, -⟩ := id hS.1.1
    have g := gl_276b hS eS hq h24 R 0 (by omega) rfl
    have es := (se_eq (a := a) hS (q := q)).mpr hb
    rw [G_276, eS]
    refine ob_mk (ald_ok (i := 3) (by decide) (by decide)) (in_pos (by rw [hQ]; exact nI_le (Nat.le_refl _) (by omega)) ?_)
    refine Eq.trans (show G_276 c B2 1 [0] [] [] = _ from g) ?_
    by_cases w : hlb S H q R = true
    · rw [if_pos w, if_pos ⟨es, w⟩]
    · rw [if_neg w, if_neg (fun z => w z.2)]
  | m + 1, i, hi, hb => by
    have ih := gl_276a hS eS hq h24 h33 m (i + 1) (by omega)
    obtain ⟨⟨-, hR, r6⟩, -, -, ⟨-, hQ, q6⟩, -⟩ := id hS.1.1
    have l1 := lb_24 hS (q := q) (s := i)
    have l2 := lb_24 hS (q := a) (s := i)
    rw [G_276, eS]
    refine ob_mk (ald_ok (i := 3) (by decide) (by decide)) (in_neg (by rw [hQ]; exact nI_ge (by omega) (by omega)) (ob_mk (f_259 hS eS h24 (by omega)) (ob_mk (v := nI (lb S H a i)) ((ald_ok (by omega) (by decide)).trans (by rw [h33 i (by omega)])) ?_)))
    by_cases w : lb S H q i = lb S H a i
    · refine in_pos (by rw [w]) ?_
      rw [nI_1]
      exact ih (fun s hs => by
        by_cases z : s = i
        · rw [z]; exact w
        · exact hb s (by omega))
    · refine in_neg (fun z => w ((nI_eq (by omega) (by omega)).mp z)) ?_
      rw [if_neg (fun z => w ((se_eq (a := a) hS (q := q)).mp z.1 i (by omega)))]
theorem f_276 {c : Cl} {q : Nat → Nat} (hS : SR c1 c8 st S R D H Q M L E K) (eS : cA c 20 B2 = S) (hq : Qok S R H q) (h24 : ∀ h, h < H → ¬ lv S h = 0 → cA c 24 B2 h = nI (q h)) (h33 : ∀ s, s < Q → cA c 33 B2 s = nI (lb S H a s)) : F_276 c B2 = some (if se S H Q q = se S H Q a ∧ hlb S H q R = true then 1 else 0) := by
  unfold F_276
  exact gl_276a hS eS hq h24 h33 Q 0 (by omega) (fun s hs => absurd hs (Nat.not_lt_zero _))
/-- from where all begin -/
theorem gl_275b {cz : Cl} {q : Nat → Nat} (hS : SR c1 c8 st S R D H Q M L E K) (eS : cA cz 20 B2 = S) (h24 : ∀ h, h < H → ¬ lv S h = 0 → cA cz 24 B2 h = nI (q h)) : ∀ (m i : Nat) (c' : Cl), i + m = Q → Kp [33] cz c' → (∀ s, s < i → cA c' 33 B2 s = nI (lb S H q s)) → Rn (G_275 B2 1 [nI i] [] [] c') (fun r => Kp [33] cz r ∧ ∀ s, s < Q → cA r 33 B2 s = nI (lb S H q s))
  | 0, i, c', hi, hK, h1 => by
    have : i = Q := by omega
    subst this
    obtain ⟨-, -, -, ⟨-, hQ, q6⟩, -⟩ := id hS.1.1
    have eS' : cA c' 20 B2 = S := by rw [(hK 20 (by decide)).2.2.2.1]; exact eS
    rw [G_275, eS']
    exact rn_e (ald_ok (i := 3) (by decide) (by decide)) (rn_p (by rw [hQ]; exact nI_le (Nat.le_refl _) (by omega)) (rn_r ⟨hK, h1⟩))
  | m + 1, i, c', hi, hK, h1 => by
    obtain ⟨-, -, -, ⟨-, hQ, q6⟩, -⟩ := id hS.1.1
    have eS' : cA c' 20 B2 = S := by rw [(hK 20 (by decide)).2.2.2.1]; exact eS
    rw [G_275, eS']
    refine rn_e (ald_ok (i := 3) (by decide) (by decide)) (rn_n (by rw [hQ]; exact nI_ge (by omega) (by omega)) (rn_e (f_259 hS eS' (fun h hh hl => by rw [(hK 24 (by decide)).2.2.2.1]; exact h24 h hh hl) (by omega)) (rn_st (by omega) (by decide) ?_)))
    rw [nI_1]
    refine gl_275b hS eS h24 m (i + 1) _ (by omega) (kp_tr hK (kp_A (by decide))) (fun s hs => ?_)
    rw [cA_same]
    by_cases w : s = i
    · rw [w, pk_us]
    · rw [pk_un w]; exact h1 s (by omega)
theorem gl_275a {Po : Cl → Prop} {cz : Cl} (ks : ∀ c', Kp [32] cz c' → (∀ h, h < 6 → cA c' 32 B2 h = cA cz 24 B2 h) → Rn (G_275 B2 1 [0] [] [] c') Po) : ∀ (m i : Nat) (c' : Cl), i + m = 6 → Kp [32] cz c' → (∀ h, h < i → cA c' 32 B2 h = cA cz 24 B2 h) → Rn (G_275 B2 0 [nI i] [] [] c') Po
  | 0, i, c', hi, hK, h1 => by
    have : i = 6 := by omega
    subst this
    rw [G_275]
    exact rn_p (by decide) (ks c' hK h1)
  | m + 1, i, c', hi, hK, h1 => by
    rw [G_275]
    refine rn_n (show ¬ (6 : Int32) ≤ nI i from nI_ge (a := i) (b := 6) (by omega) (by decide)) (rn_ld (by omega) (by decide) (rn_st (by omega) (by decide) ?_))
    rw [nI_1]
    refine gl_275a ks m (i + 1) _ (by omega) (kp_tr hK (kp_A (by decide))) (fun h hh => ?_)
    rw [cA_same]
    by_cases w : h = i
    · rw [w, pk_us, (hK 24 (by decide)).2.2.2.1]
    · rw [pk_un w]; exact h1 h (by omega)
theorem f_275 {cz : Cl} {s : Nat} (hS : SR c1 c8 st S R D H Q M L E K) (hR0 : 0 < R) (eS : cA cz 20 B2 = S) (hP : Pw cz B2) : Rn (F_275 cz B2 (nI (ph S R H s))) (fun r => Kp [24, 32, 33] cz r ∧ (∀ h, h < 6 → cA r 32 B2 h = nI (qx S H (qs S R H s) h)) ∧ (∀ h, h < 6 → cA r 24 B2 h = nI (qx S H (qs S R H s) h)) ∧ ∀ x, x < Q → cA r 33 B2 x = nI (lb S H (qs S R H s) x)) := by
  obtain ⟨⟨-, -, r6⟩, -, ⟨-, -, h6⟩, -⟩ := id hS.1.1
  unfold F_275
  refine rn_b (f_255 (q := qx S H (qs S R H s)) (qx_lt (qs_ok hR0 s) r6) hP) (fun r1 ⟨k1, h1⟩ => ?_)
  refine gl_275a (cz := r1) (fun c' k2 h2 => ?_) 6 0 r1 rfl (kp_rf _ _) (fun h hh => absurd hh (Nat.not_lt_zero _))
  have k12 : Kp [24, 32, 33] cz c' := kp_tr (kp_wd k1 (by decide)) (kp_wd k2 (by decide))
  have h24 : ∀ h, h < 6 → cA c' 24 B2 h = nI (qx S H (qs S R H s) h) := fun h hh => by rw [(k2 24 (by decide)).2.2.2.1]; exact h1 h hh
  refine rn_m (gl_275b (cz := c') (q := qs S R H s) hS (by rw [(k12 20 (by decide)).2.2.2.1]; exact eS) (fun h hh hl => by rw [h24 h (by omega), qx_l hh hl]) Q 0 c' (by omega) (kp_rf _ _) (fun s hs => absurd hs (Nat.not_lt_zero _))) (fun r ⟨g1, g2⟩ => ⟨kp_tr k12 (kp_wd g1 (by decide)), fun h hh => ?_, fun h hh => ?_, g2⟩)
  · rw [(g1 32 (by decide)).2.2.2.1, h2 h hh]; exact h1 h hh
  · rw [(g1 24 (by decide)).2.2.2.1]; exact h24 h hh
end Secret
