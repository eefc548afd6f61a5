/-! ===== theft: the class's call ===== -/
section Theft3
variable {c0 c1 c6 c8 c13 : Cl} {d : Ad} {sc st cr : Nat} {S : Nat → Int32} {R D H Q M L E : Nat} {K : Nat → Nat} {mo aim P Pq P' Pq' Z Z' : Nat}
theorem f_4 (hS : SR c1 c8 st S R D H Q M L E K) (hR0 : 0 < R) (e0 : cR c0 0 cr = sc) (hm : mo < H) (hml : ¬ lv S mo = 0) (ham : aim < R) (hr : Rows c6 d sc P Pq P' Pq' Z Z') (hz : ∀ s, s < Z → cB c13 0 P s = 0) (hz' : ∀ s, s < Z' → cB c13 0 P' s = 0) : Rn (F_4 c0 c1 c6 c8 c13 d cr st (nI mo) (nI aim)) (fun q => Kp [1, 2, 3, 4, 5, 6, 7, 8, 9, 10, 11] c0 q.1 ∧ Oth cr c0 q.1 ∧ Kp [0, 1, 2, 3, 4, 5, 6, 7, 8, 9, 10, 11, 12, 13, 14, 15] c6 q.2.1 ∧ Oth sc c6 q.2.1 ∧ RZt q.2.1 q.2.2.1 q.2.2.2 sc d c13 [P, Pq, P', Pq'] Z Z' 2 ∧ ((q0 S mo = aim ∧ cI q.1 2 cr = 0 ∧ cI q.1 1 cr = 0) ∨ (q0 S mo ≠ aim ∧ P4 cr S R D H Q mo aim q.1))) := by
  obtain ⟨⟨-, -, r6⟩, -, ⟨-, -, h6⟩, -⟩ := id hS.1.1
  have ll := lc_le S H
  have lm := lc_lt hm hml
  have ql := q0_lt hS hm hml
  have hk := kc_lt (S := S) (R := R) (q0_ok hS)
  unfold F_4
  refine rn_b (f_1 (c0 := c0) (c6 := c6) (aim := aim) hS e0 hm hml) (fun r1 ⟨k1, o1, f4, f5, f9, f8, f1, f2, k6, o6, hC, hA, e3⟩ => ?_)
  have z0 : cR r1.1 0 cr = sc := by rw [(k1 0 (by decide)).2.2.1]; exact e0
  have hr' := rows_k k6 (by decide) hr
  rw [z0, f4]
  refine rn_ld (by omega) (by decide) ?_
  rw [hA.1 _ lm, nbf_lc hm hml]
  by_cases y : q0 S mo = aim
  · refine rn_p (by rw [y]) (rn_s (rn_s (rn_r ⟨kp_tr (kp_wd k1 (by decide)) (kp_tr (kp_I (by decide)) (kp_I (by decide))), oth_tr o1 (oth_tr oth_I oth_I), kp_wd k6 (by decide), o6, ⟨P, Pq, P', Pq', Z, Z', hr', hz, hz', rm_rf _ _, ms_rf _ _ _ _, ofa_rf _ _ _⟩, Or.inl ⟨y, ?_, ?_⟩⟩)))
    · simp only [cI_sI, cI_sJ, cI_sR, cI_sA, cI_sB, cI_sQ, cR_sI, cR_sJ, cR_sR, cR_sA, cR_sB, cR_sQ, cA_sI, cA_sJ, cA_sR, cA_sA, cA_sB, cA_sQ, Nat.reduceEqDiff, false_and, and_false, and_true, true_and, if_false, if_true, and_self, ↓reduceIte]
    · simp only [cI_sI, cI_sJ, cI_sR, cI_sA, cI_sB, cI_sQ, cR_sI, cR_sJ, cR_sR, cR_sA, cR_sB, cR_sQ, cA_sI, cA_sJ, cA_sR, cA_sA, cA_sB, cA_sQ, Nat.reduceEqDiff, false_and, and_false, and_true, true_and, if_false, if_true, and_self, ↓reduceIte]
  · refine rn_n (fun z => y ((nI_eq (by omega) (by omega)).mp z)) (rn_s (rn_s ?_))
    rw [show cR (sI (sI r1.1 7 cr 1) 6 cr 2) 0 cr = sc from z0]
    refine rn_b (f_53 (c6 := r1.2) (c13 := c13) (R := R) (l := lc S H) (by omega) (by omega) (pow_sz r6 h6) hC.2.2.1 e3 hk hr' hz) (fun r ⟨P2, Pq2, Z2, g1, g2, g3, g4, g5, g6, g7, g8⟩ => rn_s ?_)
    obtain ⟨⟨r1', r2, r3, r4⟩, ⟨a1, a2, a3, a4⟩, ⟨z1, z2⟩, ⟨x1, x2, x3, x4⟩, y1, y2, y3, y4, y5, y6⟩ := id g1
    have x3' := hr.2.2.2.1
    have y' := hr.2.2.2.2
    obtain ⟨c0y, hc0⟩ : ∃ c0y, c0y = sI (sI (sI r1.1 7 cr 1) 6 cr 2) 10 cr 1 := ⟨_, rfl⟩
    rw [← hc0]
    have hC' : SC r.1 sc S R D H Q := SC_k g4 (by decide) hC
    have t0e : te (tst S R D H Q mo aim 0) = 0 := rfl
    have tke : ∀ s, tk (tst S R D H Q mo aim 0) s = if s = kc S R H (q0 S) then 1 else 0 := fun _ => rfl
    have hB : relB P2 Pq2 Z2 cr sc S R H Q mo aim (tst S R D H Q mo aim 0) c0y r.2.1 := by
      refine ⟨aq_cg g3 (fun s hs => tke s) rfl rfl, ⟨by rw [hc0]; exact z0, ?_, ?_, ?_, ?_, by rw [hc0, cJ_sI, cJ_sI, cJ_sI]; exact f9⟩, ?_, ?_, by show 1 ≤ 1000; decide, fun s hs => by rw [tke s]; split <;> omega, fun _ => ?_, fun z => absurd z (by rw [t0e]; decide), fun z => absurd z (by rw [t0e]; decide), by rw [t0e]; decide⟩
      · rw [hc0]; simp only [cI_sI, cI_sJ, cI_sR, cI_sA, cI_sB, cI_sQ, cR_sI, cR_sJ, cR_sR, cR_sA, cR_sB, cR_sQ, cA_sI, cA_sJ, cA_sR, cA_sA, cA_sB, cA_sQ, Nat.reduceEqDiff, false_and, and_false, and_true, true_and, if_false, if_true, and_self, ↓reduceIte]
      · rw [hc0]; simp only [cI_sI, cI_sJ, cI_sR, cI_sA, cI_sB, cI_sQ, cR_sI, cR_sJ, cR_sR, cR_sA, cR_sB, cR_sQ, cA_sI, cA_sJ, cA_sR, cA_sA, cA_sB, cA_sQ, Nat.reduceEqDiff, false_and, and_false, and_true, true_and, if_false, if_true, and_self, ↓reduceIte]; exact f4
      · rw [hc0]; simp only [cI_sI, cI_sJ, cI_sR, cI_sA, cI_sB, cI_sQ, cR_sI, cR_sJ, cR_sR, cR_sA, cR_sB, cR_sQ, cA_sI, cA_sJ, cA_sR, cA_sA, cA_sB, cA_sQ, Nat.reduceEqDiff, false_and, and_false, and_true, true_and, if_false, if_true, and_self, ↓reduceIte]; exact f5
      · rw [hc0]; simp only [cI_sI, cI_sJ, cI_sR, cI_sA, cI_sB, cI_sQ, cR_sI, cR_sJ, cR_sR, cR_sA, cR_sB, cR_sQ, cA_sI, cA_sJ, cA_sR, cA_sA, cA_sB, cA_sQ, Nat.reduceEqDiff, false_and, and_false, and_true, true_and, if_false, if_true, and_self, ↓reduceIte]
      · rw [hc0]; simp only [cI_sI, cI_sJ, cI_sR, cI_sA, cI_sB, cI_sQ, cR_sI, cR_sJ, cR_sR, cR_sA, cR_sB, cR_sQ, cA_sI, cA_sJ, cA_sR, cA_sA, cA_sB, cA_sQ, Nat.reduceEqDiff, false_and, and_false, and_true, true_and, if_false, if_true, and_self, ↓reduceIte]; exact f8
      · rw [hc0]; simp only [cI_sI, cI_sJ, cI_sR, cI_sA, cI_sB, cI_sQ, cR_sI, cR_sJ, cR_sR, cR_sA, cR_sB, cR_sQ, cA_sI, cA_sJ, cA_sR, cA_sA, cA_sB, cA_sQ, Nat.reduceEqDiff, false_and, and_false, and_true, true_and, if_false, if_true, and_self, ↓reduceIte]; rfl
      · rw [hc0]; simp only [cI_sI, cI_sJ, cI_sR, cI_sA, cI_sB, cI_sQ, cR_sI, cR_sJ, cR_sR, cR_sA, cR_sB, cR_sQ, cA_sI, cA_sJ, cA_sR, cA_sA, cA_sB, cA_sQ, Nat.reduceEqDiff, false_and, and_false, and_true, true_and, if_false, if_true, and_self, ↓reduceIte]; exact f1
    have g := gl_4 (D := D) (c13 := r.2.1) (d := r.2.2) (c0y := c0y) (c6z := r.1) (P := P2) (Pq := Pq2) (Z := Z2) hS hR0 hC' hm hml ham r1' r2 a1 a2 g2 z1 (by rw [hc0]; simp only [cI_sI, cI_sJ, cI_sR, cI_sA, cI_sB, cI_sQ, cR_sI, cR_sJ, cR_sR, cR_sA, cR_sB, cR_sQ, cA_sI, cA_sJ, cA_sR, cA_sA, cA_sB, cA_sQ, Nat.reduceEqDiff, false_and, and_false, and_true, true_and, if_false, if_true, and_self, ↓reduceIte]; exact f2) 1000 0 1 1 c0y r.1 r.2.1 rfl (Nat.zero_le _) (Nat.le_refl _) (by omega) t0e (fun j _ _ => rfl) (fun j j1 j2 => by have j2' : j < 1 := j2; omega) (kp_rf _ _) (oth_rf _ _) (kp_rf _ _) (oth_rf _ _) (ota_rf _ _) hB
    refine rn_m (x := G_4 c1 c8 r.2.2 cr st 0 [1, 1, 0] [] [] c0y r.1 r.2.1) g (fun q ⟨b1, b2, b3, b4, b5, b6, b7, b8⟩ => ⟨?_, ?_, kp_tr (kp_wd k6 (by decide)) (kp_tr (kp_wd g4 (by decide)) (kp_wd b3 (by decide))), oth_tr o6 (oth_tr g5 b4), ⟨P2, Pq2, P', Pq', Z2, Z', ?_, b7, fun s hs => ?_, ?_, ?_, ?_⟩, Or.inr ⟨y, b8⟩⟩)
    · exact kp_tr (kp_wd k1 (by decide)) (kp_tr (by rw [hc0]; exact kp_tr (kp_I (by decide)) (kp_tr (kp_I (by decide)) (kp_I (by decide)))) (kp_wd b1 (by decide)))
    · exact oth_tr o1 (oth_tr (by rw [hc0]; exact oth_tr oth_I (oth_tr oth_I oth_I)) b2)
    · rw [b5]; exact rows_k b3 (by decide) g1
    · rw [(b6 0 P' (by simp; exact ⟨Ne.symm y2, Ne.symm y4⟩)).2.2.2.2.1, (g8 0 P' x3'.2.2.1 (by simp; exact ⟨Ne.symm y'.2.1, Ne.symm y'.2.2.2.1⟩)).2]; exact hz' s hs
    · rw [b5]; exact g6
    · rw [b5]; exact g7
    · exact ofa_tr (fun k a ha n => g8 k a ha (fun z => n (by simp at z ⊢; omega))) g6 (ofa_o (ota_wd b6 (by simp)))
end Theft3
