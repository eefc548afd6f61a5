/-! ===== theft: the class, whole ===== -/
/-- situations behind the first so many -/
noncomputable def tst (S : Nat → Int32) (R D H Q mo aim : Nat) : Nat → Tq
  | 0 => (1, fun _ => kc S R H (q0 S), fun s => if s = kc S R H (q0 S) then 1 else 0, fun _ => 0, 0, 0)
  | k + 1 => if k < tn (tst S R D H Q mo aim k) ∧ te (tst S R D H Q mo aim k) = 0 then fo S R D H (qs S R H (tu (tst S R D H Q mo aim k) k)) true mo aim enT (lfT S R H Q mo aim (tk (tst S R D H Q mo aim k) (tu (tst S R D H Q mo aim k) k) - 1) (tm (tst S R D H Q mo aim k) (tu (tst S R D H Q mo aim k) k)) (qs S R H (tu (tst S R D H Q mo aim k) k))) (tst S R D H Q mo aim k) (R ^ lc S H) else tst S R D H Q mo aim k
section Theft2
variable {c0 c1 c6 c8 c13 : Cl} {d : Ad} {sc st cr : Nat} {S : Nat → Int32} {R D H Q M L E : Nat} {K : Nat → Nat} {mo aim : Nat}
theorem tst_0 (hR : 0 < R) (hq : Qok S R H (q0 S)) : TI S R H Q (tst S R D H Q mo aim 0) := by
  have hk := kc_lt hq
  have e1 : tn (tst S R D H Q mo aim 0) = 1 := rfl
  have e2 : ∀ j, tu (tst S R D H Q mo aim 0) j = kc S R H (q0 S) := fun _ => rfl
  have e3 : tk (tst S R D H Q mo aim 0) = fun s => if s = kc S R H (q0 S) then 1 else 0 := rfl
  have e5 : tk (tst S R D H Q mo aim 0) (kc S R H (q0 S)) = 1 := by rw [e3]; exact if_pos rfl
  refine ⟨⟨fun j hj => ⟨by rw [e2]; exact hk, by rw [e2, e5]; decide⟩, fun i j hi hj _ => by rw [e1] at hi hj; omega, fun s hs z => ⟨0, by rw [e1]; decide, ?_⟩⟩, ⟨by rw [e1]; decide, by rw [e1]; decide⟩, fun j hj => by rw [e2, e5]; omega, fun j hj => ?_⟩
  · rw [e2]
    refine Classical.byContradiction fun w => z ?_
    rw [e3]
    exact if_neg fun e => w e.symm
  · rw [e2]
    exact se_cg fun k a b => qs_kc hR hq a b
theorem tst_s {k : Nat} (h : k < tn (tst S R D H Q mo aim k) ∧ te (tst S R D H Q mo aim k) = 0) : tst S R D H Q mo aim (k + 1) = fo S R D H (qs S R H (tu (tst S R D H Q mo aim k) k)) true mo aim enT (lfT S R H Q mo aim (tk (tst S R D H Q mo aim k) (tu (tst S R D H Q mo aim k) k) - 1) (tm (tst S R D H Q mo aim k) (tu (tst S R D H Q mo aim k) k)) (qs S R H (tu (tst S R D H Q mo aim k) k))) (tst S R D H Q mo aim k) (R ^ lc S H) := by
  show (if k < tn (tst S R D H Q mo aim k) ∧ te (tst S R D H Q mo aim k) = 0 then _ else _) = _
  rw [if_pos h]
theorem tst_ok (hR : 0 < R) (hq : Qok S R H (q0 S)) : ∀ k, TI S R H Q (tst S R D H Q mo aim k) ∧ (k < tn (tst S R D H Q mo aim k) ∧ te (tst S R D H Q mo aim k) = 0 → TX (tst S R D H Q mo aim k) (tst S R D H Q mo aim (k + 1)) (tm (tst S R D H Q mo aim k) (tu (tst S R D H Q mo aim k) k) + 1))
  | 0 => ⟨tst_0 hR hq, fun h => by
      rw [tst_s h]
      have t := tst_0 (D := D) (Q := Q) (mo := mo) (aim := aim) hR hq
      exact (foT_ok hR t (t.2.2.2 0 h.1) h.1 (by have := t.2.2.1 0 h.1; omega) _).2⟩
  | k + 1 => by
    have ih := tst_ok hR hq k
    have ti : TI S R H Q (tst S R D H Q mo aim (k + 1)) := by
      by_cases w : k < tn (tst S R D H Q mo aim k) ∧ te (tst S R D H Q mo aim k) = 0
      · rw [tst_s w]
        exact (foT_ok hR ih.1 (ih.1.2.2.2 k w.1) w.1 (by have := ih.1.2.2.1 k w.1; omega) _).1
      · show TI S R H Q (if k < tn (tst S R D H Q mo aim k) ∧ te (tst S R D H Q mo aim k) = 0 then _ else tst S R D H Q mo aim k)
        rw [if_neg w]; exact ih.1
    refine ⟨ti, fun h => ?_⟩
    rw [tst_s h]
    exact (foT_ok hR ti (ti.2.2.2 _ h.1) h.1 (by have := ti.2.2.1 _ h.1; omega) _).2
/-- the object that crosses, between two situations -/
def relB (P Pq Z cr sc : Nat) (S : Nat → Int32) (R H Q mo aim : Nat) (x : Tq) (c0 c13 : Cl) : Prop := AQ c13 P Pq (R ^ lc S H) Z (tk x) (tn x) (tu x) ∧ (cR c0 0 cr = sc ∧ cI c0 7 cr = 1 ∧ cI c0 4 cr = nI (lc S mo) ∧ cI c0 5 cr = nI aim ∧ cI c0 6 cr = 2 ∧ cJ c0 9 cr = lN (se S H Q (q0 S))) ∧ cI c0 8 cr = (if enT x = true then 1 else 0) ∧ cI c0 10 cr = nI (tn x) ∧ tn x ≤ 1000 ∧ (∀ s, s < R ^ lc S H → tk x s ≤ 3000) ∧ (te x = 0 → cI c0 1 cr = -2) ∧ (te x = 1 → cI c0 1 cr = nI (tr0 x) ∧ tr0 x ≤ 3000) ∧ (te x = 2 → cI c0 1 cr = -3) ∧ te x ≤ 2
/-- what a theft comes to -/
def P4 (cr : Nat) (S : Nat → Int32) (R D H Q mo aim : Nat) (c0 : Cl) : Prop := ∃ k, ((te (tst S R D H Q mo aim k) = 0 ∧ tn (tst S R D H Q mo aim k) ≤ k ∧ cI c0 2 cr = -2) ∨ (k < tn (tst S R D H Q mo aim k) ∧ te (tst S R D H Q mo aim k) = 0 ∧ te (tst S R D H Q mo aim (k + 1)) = 2 ∧ cI c0 2 cr = -3) ∨ (k < tn (tst S R D H Q mo aim k) ∧ te (tst S R D H Q mo aim k) = 0 ∧ te (tst S R D H Q mo aim (k + 1)) = 1 ∧ cI c0 2 cr = nI (tm (tst S R D H Q mo aim k) (tu (tst S R D H Q mo aim k) k) + 1) ∧ cI c0 1 cr = nI (tr0 (tst S R D H Q mo aim (k + 1)))))
theorem gl_4 {P Pq Z : Nat} {c0y c6z : Cl} (hS : SR c1 c8 st S R D H Q M L E K) (hR0 : 0 < R) (hC : SC c6z sc S R D H Q) (hm : mo < H) (hml : ¬ lv S mo = 0) (ham : aim < R) (r12 : cR c6z 12 sc = P) (r14 : cR c6z 14 sc = Pq) (n1 : aN d P = Z) (n2 : aN d Pq = Z) (hN : R ^ lc S H ≤ Z) (hZ : Z ≤ 46656) (e2 : cI c0y 2 cr = -2) : ∀ (m k LE lvl : Nat) (c0' c6' c' : Cl), k + m = 1000 → k ≤ LE → LE ≤ tn (tst S R D H Q mo aim k) → lvl ≤ 1 + k → te (tst S R D H Q mo aim k) = 0 → (∀ j, k ≤ j → j < LE → tm (tst S R D H Q mo aim k) (tu (tst S R D H Q mo aim k) j) + 1 = lvl) → (∀ j, LE ≤ j → j < tn (tst S R D H Q mo aim k) → tm (tst S R D H Q mo aim k) (tu (tst S R D H Q mo aim k) j) + 1 = lvl + 1) → Kp [1, 8, 10, 11] c0y c0' → Oth cr c0y c0' → Kp [10, 11] c6z c6' → Oth sc c6z c6' → Ota [P, Pq] c13 c' → relB P Pq Z cr sc S R H Q mo aim (tst S R D H Q mo aim k) c0' c' → Rn (G_4 c1 c8 d cr st 0 [nI lvl, nI LE, nI k] [] [] c0' c6' c') (fun q => Kp [1, 2, 8, 10, 11] c0y q.1 ∧ Oth cr c0y q.1 ∧ Kp [10, 11] c6z q.2.1 ∧ Oth sc c6z q.2.1 ∧ q.2.2.2 = d ∧ Ota [P, Pq] c13 q.2.2.1 ∧ (∀ s, s < Z → cB q.2.2.1 0 P s = 0) ∧ P4 cr S R D H Q mo aim q.1) := fun m => by
  obtain ⟨⟨-, -, r6⟩, -, ⟨-, -, h6⟩, -⟩ := id hS.1.1
  have sz := pow_sz (S := S) r6 h6
  have ll := lc_le S H
  /- the end -/
  have lab2 : ∀ (x : Tq) (c0' c6' c' : Cl), relB P Pq Z cr sc S R H Q mo aim x c0' c' → (∀ c0'', c0'' = c0' ∨ (∃ v, c0'' = sI c0' 2 cr v) → Kp [1, 2, 8, 10, 11] c0y c0'' → Oth cr c0y c0'' → P4 cr S R D H Q mo aim c0'' → Kp [10, 11] c6z c6' → Oth sc c6z c6' → Ota [P, Pq] c13 c' → Rn (G_4 c1 c8 d cr st 2 [] [] [] c0'' c6' c') (fun q => Kp [1, 2, 8, 10, 11] c0y q.1 ∧ Oth cr c0y q.1 ∧ Kp [10, 11] c6z q.2.1 ∧ Oth sc c6z q.2.1 ∧ q.2.2.2 = d ∧ Ota [P, Pq] c13 q.2.2.1 ∧ (∀ s, s < Z → cB q.2.2.1 0 P s = 0) ∧ P4 cr S R D H Q mo aim q.1)) := fun x c0' c6' c' hB c0'' hc k0 o0 hp k6 o6 hO => by
    obtain ⟨aq, ⟨f0, -⟩, -, f10, -⟩ := hB
    have g0 : cR c0'' 0 cr = sc := by
      rcases hc with e | ⟨v, e⟩
      · rw [e]; exact f0
      · rw [e]; exact f0
    have g10 : cI c0'' 10 cr = nI (tn x) := by
      rcases hc with e | ⟨v, e⟩
      · rw [e]; exact f10
      · rw [e, cI_sI, if_neg (fun z => absurd z.1 (by decide))]; exact f10
    rw [G_4, g0, g10]
    refine rn_b (f_56 (c6 := c6') (sc := sc) (by rw [(k6 12 (by decide)).2.2.1]; exact r12) (by rw [(k6 14 (by decide)).2.2.1]; exact r14) n1 n2 hN hZ aq) (fun r ⟨a, b, c⟩ => rn_r ⟨k0, o0, k6, o6, rfl, ota_tr hO (ota_o a (by simp)), c, hp⟩)
  have done : ∀ (k : Nat) (x4 : Int32) (c0' c6' c' : Cl), te (tst S R D H Q mo aim k) = 0 → tn (tst S R D H Q mo aim k) ≤ k → Kp [1, 8, 10, 11] c0y c0' → Oth cr c0y c0' → Kp [10, 11] c6z c6' → Oth sc c6z c6' → Ota [P, Pq] c13 c' → relB P Pq Z cr sc S R H Q mo aim (tst S R D H Q mo aim k) c0' c' → Rn (G_4 c1 c8 d cr st 1 [x4] [] [] c0' c6' c') (fun q => Kp [1, 2, 8, 10, 11] c0y q.1 ∧ Oth cr c0y q.1 ∧ Kp [10, 11] c6z q.2.1 ∧ Oth sc c6z q.2.1 ∧ q.2.2.2 = d ∧ Ota [P, Pq] c13 q.2.2.1 ∧ (∀ s, s < Z → cB q.2.2.1 0 P s = 0) ∧ P4 cr S R D H Q mo aim q.1) := fun k x4 c0' c6' c' h0 hn k0 o0 k6 o6 hO hB => by
    have e8 : cI c0' 8 cr = 0 := by rw [hB.2.2.1]; unfold enT; rw [h0]; rfl
    rw [G_4]
    exact rn_p e8 (lab2 _ c0' c6' c' hB c0' (Or.inl rfl) (kp_wd k0 (by decide)) o0 ⟨k, Or.inl ⟨h0, hn, by rw [(k0 2 (by decide)).1]; exact e2⟩⟩ k6 o6 hO)
  induction m with
  | zero =>
    intro k LE lvl c0' c6' c' hk a1 a2 a3 h0 a4 a5 k0 o0 k6 o6 hO hB
    have : k = 1000 := by omega
    subst this
    rw [G_4]
    exact rn_p (by decide) (done 1000 _ c0' c6' c' h0 hB.2.2.2.2.1 k0 o0 k6 o6 hO hB)
  | succ m ih =>
    intro k LE lvl c0' c6' c' hk a1 a2 a3 h0 a4 a5 k0 o0 k6 o6 hO hB
    obtain ⟨ti, tx⟩ := tst_ok (D := D) (Q := Q) (mo := mo) (aim := aim) hR0 (q0_ok hS) k
    have tstep := tst_s (S := S) (R := R) (D := D) (H := H) (Q := Q) (mo := mo) (aim := aim) (k := k)
    obtain ⟨aq, ⟨f0, f7, f4, f5, f6, f9⟩, f8, f10, nK, tb, t0, -⟩ := id hB
    obtain ⟨x, ex⟩ : ∃ x, x = tst S R D H Q mo aim k := ⟨_, rfl⟩
    by_cases w : k < tn x
    · have cond : k < tn (tst S R D H Q mo aim k) ∧ te (tst S R D H Q mo aim k) = 0 := ⟨by rw [← ex]; exact w, h0⟩
      have tx' := tx cond
      have ts := tstep cond
      rw [← ex] at a2 a4 a5 ti tx' ts aq f8 f10 nK tb t0 h0
      obtain ⟨s, es⟩ : ∃ s, s = tu x k := ⟨_, rfl⟩
      obtain ⟨us1, us2⟩ := ti.1.1 k w
      have ub := ti.2.2.1 k w
      have use := ti.2.2.2 k w
      rw [← es] at us1 us2 ub use ts tx'
      have e8 : cI c0' 8 cr = 0 := by rw [f8]; unfold enT; rw [h0]; rfl
      obtain ⟨LE', lv', t17, q1, q2, q3, q4, q5, q6⟩ : ∃ LE' lv', ((if nI k = nI LE then some (nI lvl + 1, cI c0' 10 cr) else some (nI lvl, nI LE)) : Option (Int32 × Int32)) = some (nI lv', nI LE') ∧ k < LE' ∧ LE' ≤ tn x ∧ (∀ j, k ≤ j → j < LE' → tm x (tu x j) + 1 = lv') ∧ (∀ j, LE' ≤ j → j < tn x → tm x (tu x j) + 1 = lv' + 1) ∧ tm x s + 1 = lv' ∧ lv' ≤ 2 + k := by
        by_cases y : k = LE
        · refine ⟨tn x, lvl + 1, in_pos (by rw [y]) (by rw [nI_1, f10]), w, Nat.le_refl _, fun j g1 g2 => a5 j (by omega) g2, fun j g1 g2 => by omega, by rw [es]; exact a5 k (by omega) w, by omega⟩
        · refine ⟨LE, lvl, in_neg (fun e => y ((nI_eq (by omega) (by omega)).mp e)) rfl, by omega, a2, a4, a5, by rw [es]; exact a4 k (Nat.le_refl _) (by omega), by omega⟩
      have c14 : cR c6' 14 sc = Pq := by rw [(k6 14 (by decide)).2.2.1]; exact r14
      have c12 : cR c6' 12 sc = P := by rw [(k6 12 (by decide)).2.2.1]; exact r12
      have nN := aq_n aq
      rw [G_4, f0, c14, c12, n1, n2]
      refine rn_n (show ¬ (1000 : Int32) ≤ nI k from nI_ge (a := k) (b := 1000) (by omega) (by decide)) (rn_n (by rw [f10]; exact nI_ge w (by omega)) (rn_p e8 (rn_e t17 (rn_ld (by omega) (by omega) ?_))))
      rw [(aq.2.2.1 k w).1, ← es]
      refine rn_ll (by omega) (by omega) (rn_s ?_)
      have tbs := tb s us1
      have e11 : (lN (tk x s)).toInt32 - 1 = nI (tk x s - 1) := by rw [lN_i, nI_m1 (by omega)]
      rw [aq.1 s us1, e11]
      obtain ⟨c0b, hb⟩ : ∃ c0b, c0b = sI c0' 11 cr (nI (tk x s - 1)) := ⟨_, rfl⟩
      rw [← hb]
      have zb : cR c0b 0 cr = sc := by rw [hb]; exact f0
      have jb : cJ c0b 9 cr = lN (se S H Q (qs S R H s)) := by rw [hb, cJ_sI, use]; exact f9
      rw [zb, jb]
      have uf := unf_ok (c6 := c6') (sc := sc) (q := qs S R H s) r6 h6 (qs_ok hR0 s) (SC_k k6 (by decide) hC)
      have ee : cd R (fun j => qs S R H s (nbf S H j)) (lc S H) = s := kc_qs hR0 us1
      rw [ee] at uf
      refine rn_b uf (fun c6a ⟨u1, u2, u3⟩ => ?_)
      have hCa : SC c6a sc S R D H Q := SC_k u1 (by decide) (SC_k k6 (by decide) hC)
      have enx : enT x = false := by unfold enT; rw [h0]; rfl
      have r0 : relT c0b c' P Pq Z cr sc S R H Q mo aim (tk x s - 1) (qs S R H s) x c0b c' := by
        refine ⟨⟨aq, ota_rf _ _⟩, kp_rf _ _, oth_rf _ _, ⟨zb, ?_, ?_, ?_, ?_, jb, ?_⟩, ?_, ?_, nK, by omega, tb, fun _ => ?_, fun z => by omega, fun z => by omega, by omega⟩
        · rw [hb]; simp only [cI_sI, cI_sJ, cI_sR, cI_sA, cI_sB, cI_sQ, cR_sI, cR_sJ, cR_sR, cR_sA, cR_sB, cR_sQ, cA_sI, cA_sJ, cA_sR, cA_sA, cA_sB, cA_sQ, Nat.reduceEqDiff, false_and, and_false, and_true, true_and, if_false, if_true, and_self, ↓reduceIte]; exact f7
        · rw [hb]; simp only [cI_sI, cI_sJ, cI_sR, cI_sA, cI_sB, cI_sQ, cR_sI, cR_sJ, cR_sR, cR_sA, cR_sB, cR_sQ, cA_sI, cA_sJ, cA_sR, cA_sA, cA_sB, cA_sQ, Nat.reduceEqDiff, false_and, and_false, and_true, true_and, if_false, if_true, and_self, ↓reduceIte]; exact f4
        · rw [hb]; simp only [cI_sI, cI_sJ, cI_sR, cI_sA, cI_sB, cI_sQ, cR_sI, cR_sJ, cR_sR, cR_sA, cR_sB, cR_sQ, cA_sI, cA_sJ, cA_sR, cA_sA, cA_sB, cA_sQ, Nat.reduceEqDiff, false_and, and_false, and_true, true_and, if_false, if_true, and_self, ↓reduceIte]; exact f5
        · rw [hb]; simp only [cI_sI, cI_sJ, cI_sR, cI_sA, cI_sB, cI_sQ, cR_sI, cR_sJ, cR_sR, cR_sA, cR_sB, cR_sQ, cA_sI, cA_sJ, cA_sR, cA_sA, cA_sB, cA_sQ, Nat.reduceEqDiff, false_and, and_false, and_true, true_and, if_false, if_true, and_self, ↓reduceIte]; exact f6
        · rw [hb]; simp only [cI_sI, cI_sJ, cI_sR, cI_sA, cI_sB, cI_sQ, cR_sI, cR_sJ, cR_sR, cR_sA, cR_sB, cR_sQ, cA_sI, cA_sJ, cA_sR, cA_sA, cA_sB, cA_sQ, Nat.reduceEqDiff, false_and, and_false, and_true, true_and, if_false, if_true, and_self, ↓reduceIte]
        · rw [hb]; simp only [cI_sI, cI_sJ, cI_sR, cI_sA, cI_sB, cI_sQ, cR_sI, cR_sJ, cR_sR, cR_sA, cR_sB, cR_sQ, cA_sI, cA_sJ, cA_sR, cA_sA, cA_sB, cA_sQ, Nat.reduceEqDiff, false_and, and_false, and_true, true_and, if_false, if_true, and_self, ↓reduceIte]; exact f8
        · rw [hb]; simp only [cI_sI, cI_sJ, cI_sR, cI_sA, cI_sB, cI_sQ, cR_sI, cR_sJ, cR_sR, cR_sA, cR_sB, cR_sQ, cA_sI, cA_sJ, cA_sR, cA_sA, cA_sB, cA_sQ, Nat.reduceEqDiff, false_and, and_false, and_true, true_and, if_false, if_true, and_self, ↓reduceIte]; exact f10
        · rw [hb]; simp only [cI_sI, cI_sJ, cI_sR, cI_sA, cI_sB, cI_sQ, cR_sI, cR_sJ, cR_sR, cR_sA, cR_sB, cR_sQ, cA_sI, cA_sJ, cA_sR, cA_sA, cA_sB, cA_sQ, Nat.reduceEqDiff, false_and, and_false, and_true, true_and, if_false, if_true, and_self, ↓reduceIte]; exact t0 h0
      have hF : CrF cr sc S true mo aim enT (fun _ => 2) (relT c0b c' P Pq Z cr sc S R H Q mo aim (tk x s - 1) (qs S R H s)) := fun y c0'' c13'' hy => by
        obtain ⟨-, -, -, ⟨g0, g7, g4, g5, g6, -⟩, g8, -⟩ := hy
        exact ⟨g0, g8, g7, g4, g5, g6, by show 2 ≤ 6; decide⟩
      have g := cross_ok (d := d) (a := qs S R H s) (th := true) (mo := mo) (aim := aim) (en := enT) (lf := lfT S R H Q mo aim (tk x s - 1) (tm x s) (qs S R H s)) (mg := fun _ => 2) (rel := relT c0b c' P Pq Z cr sc S R H Q mo aim (tk x s - 1) (qs S R H s)) (c6z := c6a) hS hR0 hCa (qs_ok hR0 s) u3.1 hF (fun q x h => lfT_no h) hm hml ham (fun q y c0'' c6'' c13'' g1 g2 g3 g4 => leafT hS hR0 hCa hm hml ham (by rw [(u1 12 (by decide)).2.2.1]; exact c12) (by rw [(u1 14 (by decide)).2.2.1]; exact c14) n1 n2 hN hZ g1 g2 g3 g4) (lc S H) 0 40 (qs S R H s) x c0b c6a c' (by omega) (by omega) enx r0 (ct_at hS (qs_ok hR0 s) u3) (qs_ok hR0 s) (fun h _ _ _ => rfl)
      rw [gn_0, kc_qs hR0 us1] at g
      have bf := blk_fo (S := S) (R := R) (D := D) (H := H) (a := qs S R H s) (th := true) (mo := mo) (aim := aim) (en := enT) (lf := lfT S R H Q mo aim (tk x s - 1) (tm x s) (qs S R H s)) (x0 := x) hR0 (fun q q' x h => lfT_cg hm hml h) (lc S H) 0 (qs S R H s) (by omega) (qs_ok hR0 s) (fun j hj => absurd hj (Nat.not_lt_zero _)) (by
        rw [show cd R (fun i => qs S R H s (nbf S H i)) 0 * R ^ lc S H = 0 from Nat.zero_mul _]; exact enx)
      rw [show cd R (fun i => qs S R H s (nbf S H i)) 0 * R ^ lc S H = 0 from Nat.zero_mul _, Nat.zero_add, ← ts] at bf
      have bf' : blk S R D H (qs S R H s) true mo aim enT (lfT S R H Q mo aim (tk x s - 1) (tm x s) (qs S R H s)) (lc S H) (qs S R H s) x = tst S R D H Q mo aim (k + 1) := bf
      rw [bf'] at g
      refine rn_b g (fun r ⟨g1, g2⟩ => ?_)
      obtain ⟨⟨aq', ot'⟩, kk, oo, ⟨g0, g7, g4, g5, g6, g9, -⟩, g8, g10, nK', -, tb', t0', t1', t2', te'⟩ := id g1
      have kb : Kp [1, 8, 10, 11] c0y r.1 := kp_tr k0 (kp_tr (by rw [hb]; exact kp_I (by decide)) (kp_wd kk (by decide)))
      have ob : Oth cr c0y r.1 := oth_tr o0 (oth_tr (by rw [hb]; exact oth_I) oo)
      have k6b : Kp [10, 11] c6z r.2.1 := kp_tr k6 (kp_tr u1 (kp_wd g2.1 (by decide)))
      have o6b : Oth sc c6z r.2.1 := oth_tr o6 (oth_tr u2 g2.2.1)
      have hOb := ota_tr hO ot'
      have hBb : relB P Pq Z cr sc S R H Q mo aim (tst S R D H Q mo aim (k + 1)) r.1 r.2.2 := ⟨aq', ⟨g0, g7, g4, g5, g6, by rw [g9, use]⟩, g8, g10, nK', tb', t0', t1', t2', te'⟩
      dsimp only
      rw [nI_1]
      by_cases y0 : te (tst S R D H Q mo aim (k + 1)) = 0
      · refine ih (k + 1) LE' lv' r.1 r.2.1 r.2.2 (by omega) (by omega) (Nat.le_trans q2 tx'.1) (by omega) y0 (fun j j1 j2 => ?_) (fun j j1 j2 => ?_) kb ob k6b o6b hOb hBb
        · rw [tx'.2.1 j (by omega), (tx'.2.2.1 j (by omega)).2]; exact q3 j (by omega) j2
        · by_cases z : j < tn x
          · rw [tx'.2.1 j z, (tx'.2.2.1 j z).2]; exact q4 j j1 z
          · rw [tx'.2.2.2 j (by omega) j2]; omega
      · have ne8 : ¬ cI r.1 8 cr = 0 := by rw [g8]; unfold enT; rw [decide_eq_true y0]; decide
        have l1 : Rn (G_4 c1 c8 d cr st 1 [nI lv'] [] [] r.1 r.2.1 r.2.2) (fun q => Kp [1, 2, 8, 10, 11] c0y q.1 ∧ Oth cr c0y q.1 ∧ Kp [10, 11] c6z q.2.1 ∧ Oth sc c6z q.2.1 ∧ q.2.2.2 = d ∧ Ota [P, Pq] c13 q.2.2.1 ∧ (∀ s, s < Z → cB q.2.2.1 0 P s = 0) ∧ P4 cr S R D H Q mo aim q.1) := by
          rw [G_4]
          refine rn_n ne8 ?_
          rcases (show te (tst S R D H Q mo aim (k + 1)) = 1 ∨ te (tst S R D H Q mo aim (k + 1)) = 2 by omega) with y1 | y1
          · obtain ⟨v1, v2⟩ := t1' y1
            refine rn_e (in_neg (fun z => by
              have p : ¬ nI (tr0 (tst S R D H Q mo aim (k + 1))) < 0 := nI_pos (by omega)
              rw [← v1, z] at p
              exact p (by decide)) rfl) (rn_s ?_)
            refine lab2 _ r.1 r.2.1 r.2.2 hBb _ (Or.inr ⟨_, rfl⟩) (kp_tr (kp_wd kb (by decide)) (kp_I (by decide))) (oth_tr ob oth_I) ⟨k, Or.inr (Or.inr ⟨cond.1, cond.2, y1, ?_, ?_⟩)⟩ k6b o6b hOb
            · rw [cI_same, ← ex, ← es, q5]
            · rw [cI_sI, if_neg (fun z => absurd z.1 (by decide))]; exact v1
          · refine rn_e (in_pos (t2' y1) rfl) (rn_s ?_)
            refine lab2 _ r.1 r.2.1 r.2.2 hBb _ (Or.inr ⟨_, rfl⟩) (kp_tr (kp_wd kb (by decide)) (kp_I (by decide))) (oth_tr ob oth_I) ⟨k, Or.inr (Or.inl ⟨cond.1, cond.2, y1, ?_⟩)⟩ k6b o6b hOb
            rw [cI_same]
        rw [G_4]
        exact rn_i (fun _ => l1) (fun _ => rn_i (fun _ => l1) (fun _ => rn_n ne8 l1))
    · rw [G_4]
      have hn : tn (tst S R D H Q mo aim k) ≤ k := by rw [← ex]; omega
      have l1 := done k (nI lvl) c0' c6' c' h0 hn k0 o0 k6 o6 hO hB
      exact rn_i (fun _ => l1) (fun _ => rn_p (by rw [f10]; exact nI_le hn (by omega)) l1)
end Theft2
