/-! ===== a minute of the class: copying, echoes ===== -/
section Pass
variable {c1 c8 : Cl} {st : Nat} {S T : Nat → Int32} {R D H Q M L E : Nat} {K : Nat → Nat}
set_option maxRecDepth 10000 in
theorem f_82 {a b : Nat} (n : b ≠ a) : Rn (F_82 c8 a b) (fun c' => Sm8 c8 b c' a ∧ Oth a c8 c') := by
  have cp : ∀ (c : Cl) (k : Nat), cpi c c k b 6 k a 6 0 0 6 = some (sA c k a (va_cpy (cA c k b) (cA c k a) 0 0 6)) := fun c k => cpi_ok (sp := 0) (dp := 0) (z := 6) (by decide) (by decide) (by decide) (by decide)
  have cp2 : ∀ (c : Cl) (k : Nat), cpi c c k b 60 k a 60 0 0 60 = some (sA c k a (va_cpy (cA c k b) (cA c k a) 0 0 60)) := fun c k => cpi_ok (sp := 0) (dp := 0) (z := 60) (by decide) (by decide) (by decide) (by decide)
  unfold F_82
  refine rn_s (rn_s (rn_s (rn_s (rn_e (cp _ _) (rn_e (cp _ _) (rn_e (cp _ _) (rn_e (cp _ _) (rn_e (cp _ _) (rn_e (cp _ _) (rn_e (cp _ _) (rn_e (cp _ _) (rn_e (cp _ _) (rn_e (cp2 _ _) (rn_r ⟨⟨?_, ?_, ?_, ?_, ?_, ?_⟩, ?_⟩))))))))))))))
  · simp only [cI_sI, cI_sJ, cI_sR, cI_sA, cI_sB, cI_sQ, cR_sI, cR_sJ, cR_sR, cR_sA, cR_sB, cR_sQ, cA_sI, cA_sJ, cA_sR, cA_sA, cA_sB, cA_sQ, Nat.reduceEqDiff, false_and, and_false, and_true, true_and, if_false, if_true, and_self, ↓reduceIte, n]
  · simp only [cI_sI, cI_sJ, cI_sR, cI_sA, cI_sB, cI_sQ, cR_sI, cR_sJ, cR_sR, cR_sA, cR_sB, cR_sQ, cA_sI, cA_sJ, cA_sR, cA_sA, cA_sB, cA_sQ, Nat.reduceEqDiff, false_and, and_false, and_true, true_and, if_false, if_true, and_self, ↓reduceIte, n]
  · simp only [cI_sI, cI_sJ, cI_sR, cI_sA, cI_sB, cI_sQ, cR_sI, cR_sJ, cR_sR, cR_sA, cR_sB, cR_sQ, cA_sI, cA_sJ, cA_sR, cA_sA, cA_sB, cA_sQ, Nat.reduceEqDiff, false_and, and_false, and_true, true_and, if_false, if_true, and_self, ↓reduceIte, n]
  · simp only [cI_sI, cI_sJ, cI_sR, cI_sA, cI_sB, cI_sQ, cR_sI, cR_sJ, cR_sR, cR_sA, cR_sB, cR_sQ, cA_sI, cA_sJ, cA_sR, cA_sA, cA_sB, cA_sQ, Nat.reduceEqDiff, false_and, and_false, and_true, true_and, if_false, if_true, and_self, ↓reduceIte, n]
  · intro k j h4 h12 hj
    have ci : ∀ {f g : Nat → Int32}, va_cpy f g 0 0 6 j = f j := fun {f g} => by rw [pk_cpy_in (Nat.zero_le _) (by omega)]; rw [Nat.zero_add, Nat.sub_zero]
    rcases (show k = 4 ∨ k = 5 ∨ k = 6 ∨ k = 7 ∨ k = 8 ∨ k = 9 ∨ k = 10 ∨ k = 11 ∨ k = 12 by omega) with rfl | rfl | rfl | rfl | rfl | rfl | rfl | rfl | rfl <;> simp only [cI_sI, cI_sJ, cI_sR, cI_sA, cI_sB, cI_sQ, cR_sI, cR_sJ, cR_sR, cR_sA, cR_sB, cR_sQ, cA_sI, cA_sJ, cA_sR, cA_sA, cA_sB, cA_sQ, Nat.reduceEqDiff, false_and, and_false, and_true, true_and, if_false, if_true, and_self, ↓reduceIte, n, ci]
  · intro j hj
    have ci : ∀ {f g : Nat → Int32}, va_cpy f g 0 0 60 j = f j := fun {f g} => by rw [pk_cpy_in (Nat.zero_le _) (by omega)]; rw [Nat.zero_add, Nat.sub_zero]
    simp only [cI_sI, cI_sJ, cI_sR, cI_sA, cI_sB, cI_sQ, cR_sI, cR_sJ, cR_sR, cR_sA, cR_sB, cR_sQ, cA_sI, cA_sJ, cA_sR, cA_sA, cA_sB, cA_sQ, Nat.reduceEqDiff, false_and, and_false, and_true, true_and, if_false, if_true, and_self, ↓reduceIte, n, ci]
  · exact oth_tr oth_R (oth_tr oth_I (oth_tr oth_I (oth_tr oth_I (oth_tr oth_A (oth_tr oth_A (oth_tr oth_A (oth_tr oth_A (oth_tr oth_A (oth_tr oth_A (oth_tr oth_A (oth_tr oth_A (oth_tr oth_A oth_A))))))))))))
/-- echoes that last -/
def dr (c : Cl) (st : Nat) (f : Int32 → Int32 → Int32 → Int32) (j : Nat) : Int32 := if cA c 10 st j ≤ cI c 1 st then 0 else f (cA c 8 st j) (cA c 9 st j) (cA c 10 st j)
def DrP (c : Cl) (st R E : Nat) (r : Cl) : Prop := Kp [3, 8, 9, 10] c r ∧ Oth st c r ∧ ∃ E', E' ≤ E ∧ cI r 3 st = nI E' ∧ (∀ j, j < E' → EcB r st R j) ∧ ∀ f, su (cf r st f) E' = su (dr c st f) E
theorem gl_93 {c : Cl} (hE : cI c 3 st = nI E) (e6 : E ≤ 6) (hx : ∀ j, j < E → EcB c st R j) : ∀ (m i k : Nat) (c' : Cl), i + m = E → k ≤ i → Kp [8, 9, 10] c c' → Oth st c c' → (∀ j, i ≤ j → cA c' 8 st j = cA c 8 st j ∧ cA c' 9 st j = cA c 9 st j ∧ cA c' 10 st j = cA c 10 st j) → (∀ j, j < k → EcB c' st R j) → (∀ f, su (cf c' st f) k = su (dr c st f) i) → Rn (G_93 st 0 [nI k, nI i] [] [] c') (DrP c st R E)
  | 0, i, k, c', hi, hk, hK, hO, h1, h2, h3 => by
    have : i = E := by omega
    subst this
    rw [G_93]
    refine rn_p (by rw [(hK 3 (by decide)).1, hE]; exact nI_le (Nat.le_refl _) (by omega)) (rn_s (rn_r ⟨kp_tr (kp_wd hK (by decide)) (kp_I (by decide)), oth_tr hO oth_I, k, hk, cI_same _ _ _ _, ?_, ?_⟩))
    · intro j q; exact h2 j q
    · intro f; rw [← h3 f]; exact su_congr fun j _ => by unfold cf; rw [cA_sI]
  | m + 1, i, k, c', hi, hk, hK, hO, h1, h2, h3 => by
    obtain ⟨g1, g2, g3⟩ := h1 i (Nat.le_refl _)
    have hM : cI c' 1 st = cI c 1 st := by rw [(hK 1 (by decide)).1]
    rw [G_93]
    refine rn_n (by rw [(hK 3 (by decide)).1, hE]; exact nI_ge (by omega) (by omega)) (rn_ld (by omega) (by decide) ?_)
    rw [g3, hM]
    by_cases q : cA c 10 st i ≤ cI c 1 st
    · refine rn_e (in_pos q rfl) ?_
      rw [nI_1]
      refine gl_93 hE e6 hx m (i + 1) k c' (by omega) (by omega) hK hO (fun j q => h1 j (by omega)) h2 (fun f => ?_)
      rw [h3 f]
      show _ = su (dr c st f) i + dr c st f i
      unfold dr
      rw [if_pos q, Int32.add_zero]
    · refine rn_b (P := fun t => t.1 = nI (k + 1) ∧ Kp [8, 9, 10] c t.2 ∧ Oth st c t.2 ∧ (∀ j, j ≠ k → cA t.2 8 st j = cA c' 8 st j ∧ cA t.2 9 st j = cA c' 9 st j ∧ cA t.2 10 st j = cA c' 10 st j) ∧ cA t.2 8 st k = cA c 8 st i ∧ cA t.2 9 st k = cA c 9 st i ∧ cA t.2 10 st k = cA c 10 st i) (rn_n q (rn_ld (by omega) (by decide) (rn_st (by omega) (by decide) (rn_ld (by omega) (by decide) (rn_st (by omega) (by decide) (rn_ld (by omega) (by decide) (rn_st (by omega) (by decide) (rn_r ⟨nI_1 _, ?_, ?_, ?_, ?_, ?_, ?_⟩)))))))) ?_
      · exact kp_tr hK (kp_tr (kp_A (by decide)) (kp_tr (kp_A (by decide)) (kp_A (by decide))))
      · exact oth_tr hO (oth_tr oth_A (oth_tr oth_A oth_A))
      · intro j q
        simp only [cI_sI, cI_sJ, cI_sR, cI_sA, cI_sB, cI_sQ, cR_sI, cR_sJ, cR_sR, cR_sA, cR_sB, cR_sQ, cA_sI, cA_sJ, cA_sR, cA_sA, cA_sB, cA_sQ, Nat.reduceEqDiff, false_and, and_false, and_true, true_and, if_false, if_true, and_self, ↓reduceIte]
        exact ⟨pk_un q, pk_un q, pk_un q⟩
      · simp only [cI_sI, cI_sJ, cI_sR, cI_sA, cI_sB, cI_sQ, cR_sI, cR_sJ, cR_sR, cR_sA, cR_sB, cR_sQ, cA_sI, cA_sJ, cA_sR, cA_sA, cA_sB, cA_sQ, Nat.reduceEqDiff, false_and, and_false, and_true, true_and, if_false, if_true, and_self, ↓reduceIte]; rw [pk_us, g1]
      · simp only [cI_sI, cI_sJ, cI_sR, cI_sA, cI_sB, cI_sQ, cR_sI, cR_sJ, cR_sR, cR_sA, cR_sB, cR_sQ, cA_sI, cA_sJ, cA_sR, cA_sA, cA_sB, cA_sQ, Nat.reduceEqDiff, false_and, and_false, and_true, true_and, if_false, if_true, and_self, ↓reduceIte]; rw [pk_us, g2]
      · simp only [cI_sI, cI_sJ, cI_sR, cI_sA, cI_sB, cI_sQ, cR_sI, cR_sJ, cR_sR, cR_sA, cR_sB, cR_sQ, cA_sI, cA_sJ, cA_sR, cA_sA, cA_sB, cA_sQ, Nat.reduceEqDiff, false_and, and_false, and_true, true_and, if_false, if_true, and_self, ↓reduceIte]; rw [pk_us, g3]
      · intro t ⟨t1, tK, tO, tn, t8, t9, t10⟩
        obtain ⟨ta, tc⟩ := t
        dsimp only at t1 tK tO tn t8 t9 t10 ⊢
        rw [t1, nI_1]
        refine gl_93 hE e6 hx m (i + 1) (k + 1) tc (by omega) (by omega) tK tO (fun j q => ?_) (fun j q => ?_) (fun f => ?_)
        · obtain ⟨a1, a2, a3⟩ := tn j (by omega)
          obtain ⟨b1, b2, b3⟩ := h1 j (by omega)
          exact ⟨a1.trans b1, a2.trans b2, a3.trans b3⟩
        · by_cases w : j = k
          · subst w; unfold EcB; rw [t8, t9]; exact hx i (by omega)
          · unfold EcB; rw [(tn j w).1, (tn j w).2.1]; exact h2 j (by omega)
        · show su (cf tc st f) k + cf tc st f k = su (dr c st f) i + dr c st f i
          rw [← h3 f]
          have e1 : su (cf tc st f) k = su (cf c' st f) k := su_congr fun j z => by
            obtain ⟨a1, a2, a3⟩ := tn j (by omega)
            unfold cf; rw [a1, a2, a3]
          have e2 : cf tc st f k = dr c st f i := by unfold cf dr; rw [t8, t9, t10, if_neg q]
          rw [e1, e2]
theorem f_93 {c : Cl} (hE : cI c 3 st = nI E) (e6 : E ≤ 6) (hx : ∀ j, j < E → EcB c st R j) : Rn (F_93 c st) (DrP c st R E) := by
  unfold F_93
  exact gl_93 hE e6 hx E 0 0 c (by omega) (Nat.le_refl _) (kp_rf _ _) (oth_rf _ _) (fun j _ => ⟨rfl, rfl, rfl⟩) (fun j q => by omega) (fun f => rfl)
end Pass
