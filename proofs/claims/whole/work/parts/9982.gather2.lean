/-! ===== gather: both alike, whole ===== -/
section Gather2
variable {c1 c6 c7 c8 c10 c11 c12 c13 : Cl} {d : Ad} {B B2 sc sr st : Nat} {S : Nat → Int32} {A : Nat → Nat} {X R D H Q M L E P Pq P' Pq' Z Z' : Nat} {K : Nat → Nat}
theorem f_76 {rm x : Nat} (hS : SR c1 c8 st S R D H Q M L E K) (hR0 : 0 < R) (hC : SC c6 sc S R D H Q) (e3 : cI c6 3 sc = nI (kc S R H (q0 S))) (e7 : cR c7 0 sr = sc) (e11 : cI c7 11 sr = nI rm) (e12 : cI c7 12 sr = nI x) (x100 : x < 100) (hrm : rm < R) (e8 : cI c7 8 sr = -2) (h0 : laN S H (q0 S) rm ≠ x) (hr : Rows c6 d sc P Pq P' Pq' Z Z') (hz : ∀ s, s < Z → cB c13 0 P s = 0) (hz' : ∀ s, s < Z' → cB c13 0 P' s = 0) : Rn (F_76 c6 c7 c13 d sr) (fun q => Kp [10, 11, 12, 14] c6 q.1 ∧ Oth sc c6 q.1 ∧ RZt q.1 q.2.2.1 q.2.2.2 sc d c13 [P, Pq, P', Pq'] Z Z' 2 ∧ P76 c7 sr S R D H rm x q.2.1) := by
  obtain ⟨⟨-, -, r6⟩, -, ⟨-, -, h6⟩, -⟩ := id hS.1.1
  have ll := lc_le S H
  have hk := kc_lt (S := S) (R := R) (q0_ok hS)
  unfold F_76
  rw [e7]
  refine rn_b (f_53 (c6 := c6) (c13 := c13) (R := R) (l := lc S H) (by omega) (by omega) (pow_sz r6 h6) hC.2.2.1 e3 hk hr hz) (fun r ⟨P2, Pq2, Z2, g1, g2, g3, g4, g5, g6, g7, g8⟩ => ?_)
  obtain ⟨⟨r1, r2, r3, r4⟩, ⟨a1, a2, a3, a4⟩, ⟨z1, z2⟩, ⟨x1, x2, x3, x4⟩, y1, y2, y3, y4, y5, y6⟩ := id g1
  have x3' := hr.2.2.2.1
  have y' := hr.2.2.2.2
  have hC' : SC r.1 sc S R D H Q := SC_k g4 (by decide) hC
  have cb0 : CB r.2.1 P2 Pq2 Z2 S R H (bst S R D H 0) := aq_cg g3 (fun s hs => by
    have e : bfr (bst S R D H 0) s = if s = kc S R H (q0 S) then 1 else 0 := rfl
    show mkf S (bst S R D H 0) s = _
    unfold mkf
    by_cases w : s = kc S R H (q0 S)
    · have e1 : bfr (bst S R D H 0) s = 1 := e.trans (if_pos w)
      rw [if_neg (by omega), if_pos e1, if_pos w]
    · have e1 : bfr (bst S R D H 0) s = 0 := e.trans (if_neg w)
      rw [if_pos e1, if_neg w]) rfl rfl
  have ns0 : NoS S R H rm x (bst S R D H 0) := fun j hj => by
    show laN S H (qs S R H (kc S R H (q0 S))) rm ≠ x
    rw [laN_cg (q := qs S R H (kc S R H (q0 S))) (q' := q0 S) (fun k a b => qs_kc hR0 (q0_ok hS) a b)]
    exact h0
  have f0 : bfr (bst S R D H 0) (kc S R H (q0 S)) = 1 := if_pos rfl
  have g := gl_76 (c7 := c7) (c13 := r.2.1) (d := r.2.2) (c6z := r.1) (P := P2) (Pq := Pq2) (Z := Z2) (rm := rm) (x := x) hS hR0 hC' ⟨e7, r1, r2, a1, a2, g2, z1, e11, e12, x100⟩ hrm e8 (R ^ lc S H) 0 1 1 r.1 r.2.1 (by omega) (Nat.zero_le _) (Nat.le_refl _) (fun j _ _ => f0) (fun j j1 j2 => by have j2' : j < 1 := j2; omega) (kp_rf _ _) (oth_rf _ _) (ota_rf _ _) cb0 ns0
  refine rn_m (x := G_76 r.2.2 sr 0 [1, 1, 1, 0] [] [] r.1 c7 r.2.1) g (fun q ⟨b1, b2, b3, b4, b5, b6⟩ => ⟨kp_tr (kp_wd g4 (by decide)) (kp_wd b1 (by decide)), oth_tr g5 b2, ⟨P2, Pq2, P', Pq', Z2, Z', ?_, b5, fun s hs => ?_, ?_, ?_, ?_⟩, b6⟩)
  · rw [b3]; exact rows_k b1 (by decide) g1
  · rw [(b4 0 P' (by simp; exact ⟨Ne.symm y2, Ne.symm y4⟩)).2.2.2.2.1, (g8 0 P' x3'.2.2.1 (by simp; exact ⟨Ne.symm y'.2.1, Ne.symm y'.2.2.2.1⟩)).2]; exact hz' s hs
  · rw [b3]; exact g6
  · rw [b3]; exact g7
  · exact ofa_tr (fun k a ha n => g8 k a ha (fun z => n (by simp at z ⊢; omega))) g6 (ofa_o (ota_wd b4 (by simp)))
/-- what seekCount leaves -/
def P74 (c7 : Cl) (sr : Nat) (S : Nat → Int32) (R D H rm x : Nat) (c7' : Cl) : Prop := (laN S H (q0 S) rm = x ∧ cI c7' 8 sr = 0 ∧ cI c7' 9 sr = -2 ∧ cI c7' 10 sr = -2) ∨ (laN S H (q0 S) rm ≠ x ∧ cI c7' 8 sr = -2 ∧ cI c7' 9 sr = -2 ∧ cI c7' 10 sr = -2 ∧ ∃ k, bn (bst S R D H k) ≤ k ∧ NoS S R H rm x (bst S R D H k)) ∨ (laN S H (q0 S) rm ≠ x ∧ ∃ k h r τ, k < bn (bst S R D H k) ∧ FD S R D H rm x k h r (bst S R D H k) τ ∧ NoS S R H rm x τ ∧ cI c7' 8 sr = nI (bfr (bst S R D H k) (bu (bst S R D H k) k)) ∧ cI c7' 9 sr = nI (bg1 τ k h r / 6) ∧ cI c7' 10 sr = nI (bg1 τ k h r % 6))
theorem f_74 {rm x : Nat} (hS : SR c1 c8 st S R D H Q M L E K) (hR0 : 0 < R) (e7 : cR c7 0 sr = sc) (x100 : x < 100) (hrm : rm < R) (hr : Rows c6 d sc P Pq P' Pq' Z Z') (hz : ∀ s, s < Z → cB c13 0 P s = 0) (hz' : ∀ s, s < Z' → cB c13 0 P' s = 0) : Rn (F_74 c1 c6 c7 c8 c13 d sr st (nI rm) (nI x)) (fun q => Kp [0, 1, 2, 3, 4, 5, 6, 7, 8, 9, 10, 11, 12, 13, 14, 15] c6 q.1 ∧ Oth sc c6 q.1 ∧ Kp [8, 9, 10, 11, 12] c7 q.2.1 ∧ Oth sr c7 q.2.1 ∧ RZt q.1 q.2.2.1 q.2.2.2 sc d c13 [P, Pq, P', Pq'] Z Z' 2 ∧ P74 c7 sr S R D H rm x q.2.1) := by
  obtain ⟨⟨-, -, r6⟩, -, ⟨-, -, h6⟩, -⟩ := id hS.1.1
  unfold F_74
  rw [e7]
  refine rn_b (take_ok (c6 := c6) (sc := sc) hS) (fun c6a ⟨t1, t2, t3, t4, t5⟩ => rn_s (rn_s (rn_s (rn_s (rn_s ?_)))))
  obtain ⟨c7a, hc7⟩ : ∃ c7a, c7a = sI (sI (sI (sI (sI c7 11 sr (nI rm)) 12 sr (nI x)) 8 sr (-2)) 9 sr (-2)) 10 sr (-2) := ⟨_, rfl⟩
  rw [← hc7]
  have k7 : Kp [8, 9, 10, 11, 12] c7 c7a := by rw [hc7]; exact kp_tr (kp_I (by decide)) (kp_tr (kp_I (by decide)) (kp_tr (kp_I (by decide)) (kp_tr (kp_I (by decide)) (kp_I (by decide)))))
  have o7 : Oth sr c7 c7a := by rw [hc7]; exact oth_tr oth_I (oth_tr oth_I (oth_tr oth_I (oth_tr oth_I oth_I)))
  have e0 : cR c7a 0 sr = sc := by rw [(k7 0 (by decide)).2.2.1]; exact e7
  have w8 : cI c7a 8 sr = -2 := by rw [hc7]; simp only [cI_sI, cI_sJ, cI_sR, cI_sA, cI_sB, cI_sQ, cR_sI, cR_sJ, cR_sR, cR_sA, cR_sB, cR_sQ, cA_sI, cA_sJ, cA_sR, cA_sA, cA_sB, cA_sQ, Nat.reduceEqDiff, false_and, and_false, and_true, true_and, if_false, if_true, and_self, ↓reduceIte]
  have w9 : cI c7a 9 sr = -2 := by rw [hc7]; simp only [cI_sI, cI_sJ, cI_sR, cI_sA, cI_sB, cI_sQ, cR_sI, cR_sJ, cR_sR, cR_sA, cR_sB, cR_sQ, cA_sI, cA_sJ, cA_sR, cA_sA, cA_sB, cA_sQ, Nat.reduceEqDiff, false_and, and_false, and_true, true_and, if_false, if_true, and_self, ↓reduceIte]
  have w10 : cI c7a 10 sr = -2 := by rw [hc7]; simp only [cI_sI, cI_sJ, cI_sR, cI_sA, cI_sB, cI_sQ, cR_sI, cR_sJ, cR_sR, cR_sA, cR_sB, cR_sQ, cA_sI, cA_sJ, cA_sR, cA_sA, cA_sB, cA_sQ, Nat.reduceEqDiff, false_and, and_false, and_true, true_and, if_false, if_true, and_self, ↓reduceIte]
  have w11 : cI c7a 11 sr = nI rm := by rw [hc7]; simp only [cI_sI, cI_sJ, cI_sR, cI_sA, cI_sB, cI_sQ, cR_sI, cR_sJ, cR_sR, cR_sA, cR_sB, cR_sQ, cA_sI, cA_sJ, cA_sR, cA_sA, cA_sB, cA_sQ, Nat.reduceEqDiff, false_and, and_false, and_true, true_and, if_false, if_true, and_self, ↓reduceIte]
  have w12 : cI c7a 12 sr = nI x := by rw [hc7]; simp only [cI_sI, cI_sJ, cI_sR, cI_sA, cI_sB, cI_sQ, cR_sI, cR_sJ, cR_sR, cR_sA, cR_sB, cR_sQ, cA_sI, cA_sJ, cA_sR, cA_sA, cA_sB, cA_sQ, Nat.reduceEqDiff, false_and, and_false, and_true, true_and, if_false, if_true, and_self, ↓reduceIte]
  have l24 := laN_24 hS (q := q0 S) (r := rm)
  rw [e0]
  have hr' := rows_k t1 (by decide) hr
  refine rn_ld (by omega) (by decide) ?_
  rw [t4.2 rm hrm, la_nI hS (q0_ok hS) hrm]
  by_cases y : laN S H (q0 S) rm = x
  · refine rn_e (in_pos (by rw [y]) (ob_mk rfl rfl)) (rn_r ⟨kp_wd t1 (by decide), t2, kp_tr k7 (kp_I (by decide)), oth_tr o7 oth_I, ⟨P, Pq, P', Pq', Z, Z', hr', hz, hz', rm_rf _ _, ms_rf _ _ _ _, ofa_rf _ _ _⟩, Or.inl ⟨y, ?_, ?_, ?_⟩⟩)
    · dsimp only; rw [cI_same]
    · dsimp only; rw [cI_sI, if_neg (fun z => absurd z.1 (by decide))]; exact w9
    · dsimp only; rw [cI_sI, if_neg (fun z => absurd z.1 (by decide))]; exact w10
  · have ny : ¬ nI (laN S H (q0 S) rm) = nI x := fun z => y ((nI_eq (by omega) (by omega)).mp z)
    obtain ⟨v, v1, v2, v3⟩ := f_75 (c6 := c6a) (c7 := c7a) (x := x) hS t3 e0
    by_cases z : v = 0
    · refine rn_e (in_neg ny (ob_mk v1 (in_pos z rfl))) (rn_r ⟨kp_wd t1 (by decide), t2, k7, o7, ⟨P, Pq, P', Pq', Z, Z', hr', hz, hz', rm_rf _ _, ms_rf _ _ _ _, ofa_rf _ _ _⟩, Or.inr (Or.inl ⟨y, w8, w9, w10, ?_⟩)⟩)
      obtain ⟨Kx, bi⟩ := (bst_ok (D := D) hR0 r6 h6 (q0_ok hS) (R ^ lc S H)).2
      exact ⟨R ^ lc S H, uq_n bi.1, fun j hj => v3 z _ _⟩
    · obtain ⟨q, q1, q2, q3, q4, q5⟩ := f_76 (c7 := c7a) (c13 := c13) hS hR0 t3 t5 e0 w11 w12 x100 hrm w8 y hr' hz hz'
      refine rn_e (in_neg ny (ob_mk v1 (in_neg z (ob_mk q1 rfl)))) (rn_r ⟨kp_tr (kp_wd t1 (by decide)) (kp_wd q2 (by decide)), oth_tr t2 q3, ?_, ?_, q4, ?_⟩)
      · dsimp only
        rcases q5 with ⟨e, -⟩ | ⟨e, -⟩
        · rw [e]; exact k7
        · exact kp_tr k7 (kp_wd e (by decide))
      · dsimp only
        rcases q5 with ⟨e, -⟩ | ⟨-, e, -⟩
        · rw [e]; exact o7
        · exact oth_tr o7 e
      · dsimp only
        rcases q5 with ⟨e, g⟩ | ⟨-, -, g⟩
        · rw [e]; exact Or.inr (Or.inl ⟨y, w8, w9, w10, g⟩)
        · exact Or.inr (Or.inr ⟨y, g⟩)
/-- one that is sought and has come; which comes first -/
def sv (S : Nat → Int32) (R H rm x : Nat) (σ : Bq) (s : Nat) : Prop := s < R ^ lc S H ∧ bfr σ s ≠ 0 ∧ laN S H (qs S R H s) rm = x
def lle (σ : Bq) (b s : Nat) : Prop := bfr σ b < bfr σ s ∨ (bfr σ b = bfr σ s ∧ (bfr σ b = 1 ∨ bb σ b ≤ bb σ s))
def Bst (S : Nat → Int32) (R H rm x : Nat) (σ : Bq) (i : Nat) : Option Nat → Prop
  | none => ∀ s, sv S R H rm x σ s → ¬ ph S R H s < i
  | some b => sv S R H rm x σ b ∧ ph S R H b < i ∧ ∀ s, sv S R H rm x σ s → ph S R H s < i → lle σ b s
def bvv (S : Nat → Int32) (R H : Nat) : Option Nat → Int32
  | none => -1
  | some b => nI (ph S R H b)
def rsv (σ : Bq) (p : Int32) : Option Nat → Int32
  | none => -2
  | some b => if p = 0 then nI (bfr σ b - 1) else if bfr σ b = 1 then -2 else if p = 1 then nI (bb σ b / 6) else nI (bb σ b % 6)
theorem gl_285 {c0 : Cl} {rm x : Nat} {p3 Kx : Int32} {Kk : Nat} {σ : Bq} (hS : SR c1 c8 st S R D H Q M L E K) (hR0 : 0 < R) (eS : cA c0 20 B2 = S) (hP : Pw c0 B2) (hrm : rm < R) (x100 : x < 100) (hi : BI S R H σ Kk) (hB : RBq c0 B2 S R H σ) : ∀ (m i : Nat) (c' : Cl) (best : Option Nat), i + m = 46656 → Kp [24] c0 c' → Bst S R H rm x σ i best → Rn (G_285 B2 0 [nI rm, nI x, p3, bvv S R H best, nI i] [] [] c') (fun q => Kp [24] c0 q.2 ∧ ∃ best, Bst S R H rm x σ 46656 best ∧ q.1 = rsv σ p3 best)
  | 0, i, c', best, hm, hK, h1 => by
    have : i = 46656 := by omega
    subst this
    obtain ⟨⟨-, -, r6⟩, -, ⟨-, -, h6⟩, -⟩ := id hS.1.1
    have sz := pow_sz (S := S) r6 h6
    have e40 : cA c' 40 B2 = cA c0 40 B2 := by rw [(hK 40 (by decide)).2.2.2.1]
    have e41 : cA c' 41 B2 = cA c0 41 B2 := by rw [(hK 41 (by decide)).2.2.2.1]
    rw [G_285]
    refine rn_p (by decide) ?_
    cases best with
    | none => exact rn_n (show ¬ (0 : Int32) ≤ -1 by decide) (rn_r ⟨hK, none, h1, rfl⟩)
    | some b =>
      obtain ⟨⟨s1, s2, s3⟩, -, -⟩ := id h1
      have b1 := ph_lt (S := S) (H := H) hR0 r6 b
      have fb := fr_b hi s1
      have v40 : ald (cA c' 40 B2) 46656 (nI (ph S R H b)) = some (nI (bfr σ b - 1)) := (ald_ok b1 (by decide)).trans (by rw [e40, hB.1 b s1, nI_m1 (by omega)])
      refine rn_p (show (0 : Int32) ≤ nI (ph S R H b) from nI_pos' (by omega)) (rn_e (v := rsv σ p3 (some b)) ?_ (rn_r ⟨hK, some b, h1, rfl⟩))
      by_cases y0 : p3 = 0
      · rw [show rsv σ p3 (some b) = nI (bfr σ b - 1) from if_pos y0]; exact in_pos y0 (ob_mk v40 rfl)
      · by_cases y1 : bfr σ b = 1
        · rw [show rsv σ p3 (some b) = -2 from (if_neg y0).trans (if_pos y1)]; exact in_neg y0 (ob_mk v40 (in_pos (by rw [y1]; rfl) rfl))
        · obtain ⟨j, hj, ej⟩ := hi.1.2.2 b s1 s2
          have b64 := (hi.2.2.1 j hj).2
          rw [ej] at b64
          have v41 : ald (cA c' 41 B2) 46656 (nI (ph S R H b)) = some (nI (bb σ b)) := (ald_ok b1 (by decide)).trans (by rw [e41, hB.2.2.1 b s1 (by omega)])
          by_cases y2 : p3 = 1
          · rw [show rsv σ p3 (some b) = nI (bb σ b / 6) from (if_neg y0).trans ((if_neg y1).trans (if_pos y2))]
            refine in_neg y0 (ob_mk v40 (in_neg (nI_ne0 (by omega) (by omega)) (in_pos y2 (ob_mk v41 (ob_mk (v := nI (bb σ b / 6)) ?_ rfl)))))
            unfold idv
            rw [if_neg (by decide)]
            exact congrArg some (pk_div (a := bb σ b) (d := 6) (by omega) (by decide) (by decide))
          · rw [show rsv σ p3 (some b) = nI (bb σ b % 6) from (if_neg y0).trans ((if_neg y1).trans (if_neg y2))]
            exact in_neg y0 (ob_mk v40 (in_neg (nI_ne0 (by omega) (by omega)) (in_neg y2 (ob_mk v41 (ob_mk (irm_ok (x := bb σ b) (y := 6) (by omega) (by decide) (by decide)) rfl)))))
  | m + 1, i, c', best, hm, hK, h1 => by
    obtain ⟨⟨-, -, r6⟩, -, ⟨-, hH, h6⟩, -⟩ := id hS.1.1
    have sz := pow_sz (S := S) r6 h6
    have e40 : cA c' 40 B2 = cA c0 40 B2 := by rw [(hK 40 (by decide)).2.2.2.1]
    have go : ∀ (c'' : Cl) (b' : Option Nat), Kp [24] c0 c'' → Bst S R H rm x σ (i + 1) b' → Rn (G_285 B2 0 [nI rm, nI x, p3, bvv S R H b', nI i + 1] [] [] c'') (fun q => Kp [24] c0 q.2 ∧ ∃ best, Bst S R H rm x σ 46656 best ∧ q.1 = rsv σ p3 best) := fun c'' b' k1 k2 => by
      rw [nI_1]; exact gl_285 (Kx := Kx) hS hR0 eS hP hrm x100 hi hB m (i + 1) c'' b' (by omega) k1 k2
    have skip : (∀ s, sv S R H rm x σ s → ph S R H s ≠ i) → Bst S R H rm x σ (i + 1) best := fun e => by
      cases best with
      | none => exact fun s hs z => h1 s hs (by have := e s hs; omega)
      | some b => exact ⟨h1.1, by have := h1.2.1; omega, fun s hs z => h1.2.2 s hs (by have := e s hs; omega)⟩
    rw [G_285]
    refine rn_n (show ¬ (46656 : Int32) ≤ nI i from nI_ge (a := i) (b := 46656) (by omega) (by decide)) (rn_ld (by omega) (by decide) ?_)
    rw [e40]
    by_cases w : psi S R H i < R ^ lc S H ∧ ph S R H (psi S R H i) = i
    · obtain ⟨s, es⟩ : ∃ s, s = psi S R H i := ⟨_, rfl⟩
      rw [← es] at w
      have only : ∀ s', s' < R ^ lc S H → ph S R H s' = i → s' = s := fun s' hs' e => ph_inj hR0 r6 h6 hs' w.1 (by rw [e, w.2])
      have v := hB.1 s w.1
      rw [w.2] at v
      rw [v]
      have fs := fr_b hi w.1
      by_cases y : bfr σ s = 0
      · rw [y]
        exact rn_e (in_neg (by decide) rfl) (go c' best hK (skip fun s' hs' e => hs'.2.1 (by rw [only s' hs'.1 e]; exact y)))
      · rw [nI_m1 (by omega)]
        have lk := look_ok (S := S) (H := H) (c := c') (B2 := B2) (s := s) hR0 r6 (pw_k hK (by decide) hP)
        rw [w.2] at lk
        obtain ⟨r25, l1, l2, l3⟩ := lk
        have k2 := kp_tr hK l2
        have eS' : cA r25 20 B2 = S := by rw [(k2 20 (by decide)).2.2.2.1]; exact eS
        have l24 := laN_24 hS (q := qs S R H s) (r := rm)
        have lq : F_258 r25 B2 (nI rm) = some (nI (laN S H (qs S R H s) rm)) := by
          refine (f_258 (q := qs S R H s) (by rw [eS']; exact hH) h6 (by rw [eS']; exact fun h a b => l3 h a b (by omega))).trans ?_
          rw [eS', la_nI hS (qs_ok hR0 _) hrm]
        have a40 : ∀ s', s' < R ^ lc S H → bfr σ s' ≠ 0 → ald (cA r25 40 B2) 46656 (nI (ph S R H s')) = some (nI (bfr σ s' - 1)) := fun s' h1 h2 => (ald_ok (ph_lt hR0 r6 s') (by decide)).trans (by rw [(k2 40 (by decide)).2.2.2.1, hB.1 s' h1, nI_m1 (by omega)])
        have a41 : ∀ s', s' < R ^ lc S H → 2 ≤ bfr σ s' → ald (cA r25 41 B2) 46656 (nI (ph S R H s')) = some (nI (bb σ s')) := fun s' h1 h2 => (ald_ok (ph_lt hR0 r6 s') (by decide)).trans (by rw [(k2 41 (by decide)).2.2.2.1, hB.2.2.1 s' h1 h2])
        have b64 : ∀ s', s' < R ^ lc S H → bfr σ s' ≠ 0 → bb σ s' < 64 := fun s' h1 h2 => by
          obtain ⟨j, hj, ej⟩ := hi.1.2.2 s' h1 h2
          have := (hi.2.2.1 j hj).2
          rw [ej] at this
          exact this
        have s40 := a40 s w.1 y
        rw [w.2] at s40
        by_cases z : laN S H (qs S R H s) rm = x
        · have sS : sv S R H rm x σ s := ⟨w.1, y, z⟩
          cases best with
          | none =>
            refine rn_e (v := (nI i, r25)) (in_pos (nI_pos' (by omega)) (ob_mk l1 (ob_mk lq (in_pos (by rw [z]) (in_pos (show (-1 : Int32) < 0 by decide) rfl))))) ?_
            have g := go r25 (some s) k2 ⟨sS, by omega, fun s' hs' u => ?_⟩
            · rw [show bvv S R H (some s) = nI i by show nI (ph S R H s) = nI i; rw [w.2]] at g
              exact g
            · by_cases e : ph S R H s' = i
              · rw [only s' hs'.1 e]; exact Or.inr ⟨rfl, Or.inr (Nat.le_refl _)⟩
              · exact absurd (show ph S R H s' < i by omega) (h1 s' hs')
          | some b =>
            obtain ⟨⟨s1, s2, s3⟩, b2, b3⟩ := id h1
            have b40 := a40 b s1 s2
            have fb := fr_b hi s1
            have bp := ph_lt (S := S) (H := H) hR0 r6 b
            have keep : lle σ b s → Rn (G_285 B2 0 [nI rm, nI x, p3, bvv S R H (some b), nI i + 1] [] [] r25) (fun q => Kp [24] c0 q.2 ∧ ∃ best, Bst S R H rm x σ 46656 best ∧ q.1 = rsv σ p3 best) := fun e => go r25 (some b) k2 ⟨h1.1, by omega, fun s' hs' u => by
              by_cases e' : ph S R H s' = i
              · rw [only s' hs'.1 e']; exact e
              · exact b3 s' hs' (by omega)⟩
            have take : (∀ s', lle σ b s' → lle σ s s') → Rn (G_285 B2 0 [nI rm, nI x, p3, nI i, nI i + 1] [] [] r25) (fun q => Kp [24] c0 q.2 ∧ ∃ best, Bst S R H rm x σ 46656 best ∧ q.1 = rsv σ p3 best) := fun e => by
              have g := go r25 (some s) k2 ⟨sS, by omega, fun s' hs' u => by
                by_cases e' : ph S R H s' = i
                · rw [only s' hs'.1 e']; exact Or.inr ⟨rfl, Or.inr (Nat.le_refl _)⟩
                · exact e s' (b3 s' hs' (by omega))⟩
              rw [show bvv S R H (some s) = nI i by show nI (ph S R H s) = nI i; rw [w.2]] at g
              exact g
            have nb : ¬ bvv S R H (some b) < 0 := nI_pos (by omega)
            by_cases f1 : bfr σ s < bfr σ b
            · refine rn_e (in_pos (nI_pos' (by omega)) (ob_mk l1 (ob_mk lq (in_pos (by rw [z]) (in_neg nb (ob_mk s40 (ob_mk b40 (in_pos (nI_lt (by omega) (by omega)) rfl)))))))) (take fun s' e => ?_)
              unfold lle at e ⊢
              omega
            · have nf : ¬ nI (bfr σ s - 1) < nI (bfr σ b - 1) := nI_nlt (by omega) (by omega)
              by_cases f2 : bfr σ s = bfr σ b
              · have e2 : nI (bfr σ s - 1) = nI (bfr σ b - 1) := by rw [f2]
                by_cases f3 : bfr σ s = 1
                · refine rn_e (in_pos (nI_pos' (by omega)) (ob_mk l1 (ob_mk lq (in_pos (by rw [z]) (in_neg nb (ob_mk s40 (ob_mk b40 (in_neg nf (ob_mk s40 (ob_mk b40 (in_pos e2 (ob_mk s40 (in_pos (by rw [f3]; decide) rfl))))))))))))) (keep ?_)
                  unfold lle; omega
                · have s41 := a41 s w.1 (by omega)
                  rw [w.2] at s41
                  have b41 := a41 b s1 (by omega)
                  have c1' := b64 s w.1 y
                  have c2' := b64 b s1 s2
                  have n0 : ¬ nI (bfr σ s - 1) ≤ 0 := nI_nle (by omega) (by omega)
                  by_cases f4 : bb σ b ≤ bb σ s
                  · refine rn_e (in_pos (nI_pos' (by omega)) (ob_mk l1 (ob_mk lq (in_pos (by rw [z]) (in_neg nb (ob_mk s40 (ob_mk b40 (in_neg nf (ob_mk s40 (ob_mk b40 (in_pos e2 (ob_mk s40 (in_neg n0 (ob_mk s41 (ob_mk b41 (in_pos (nI_le f4 (by omega)) rfl)))))))))))))))) (keep ?_)
                    unfold lle; omega
                  · refine rn_e (in_pos (nI_pos' (by omega)) (ob_mk l1 (ob_mk lq (in_pos (by rw [z]) (in_neg nb (ob_mk s40 (ob_mk b40 (in_neg nf (ob_mk s40 (ob_mk b40 (in_pos e2 (ob_mk s40 (in_neg n0 (ob_mk s41 (ob_mk b41 (in_neg (nI_ge (by omega) (by omega)) rfl)))))))))))))))) (take fun s' e => ?_)
                    unfold lle at e ⊢
                    omega
              · refine rn_e (in_pos (nI_pos' (by omega)) (ob_mk l1 (ob_mk lq (in_pos (by rw [z]) (in_neg nb (ob_mk s40 (ob_mk b40 (in_neg nf (ob_mk s40 (ob_mk b40 (in_neg (fun e => f2 (by have := (nI_eq (by omega) (by omega)).mp e; omega)) rfl))))))))))) (keep ?_)
                unfold lle; omega
        · refine rn_e (in_pos (nI_pos' (by omega)) (ob_mk l1 (ob_mk lq (in_neg (fun e => z ((nI_eq (by omega) (by omega)).mp e)) rfl)))) (go r25 best k2 (skip fun s' hs' e => z (by rw [← only s' hs'.1 e]; exact hs'.2.2)))
    · rw [hB.2.1 i (by omega) (fun s hs e => w (by rw [← e, psi_ph hR0 r6 h6 hs]; exact ⟨hs, rfl⟩))]
      exact rn_e (in_neg (by decide) rfl) (go c' best hK (skip fun s' hs' e => w (by rw [← e, psi_ph hR0 r6 h6 hs'.1]; exact ⟨hs'.1, rfl⟩)))
theorem f_164 (p : Int32) : F_164 p = some (if p < 0 then 0 else if 99 < p then 0 else 1) := by
  unfold F_164
  by_cases w : p < 0
  · rw [if_pos w, if_pos w]; rfl
  · rw [if_neg w, if_neg w]
    by_cases u : 99 < p
    · rw [if_pos u, if_pos u]; rfl
    · rw [if_neg u, if_neg u]; rfl
/-- what the class answers is what the reference answers -/
theorem gat_ok {rm x kf : Nat} {p3 : Int32} {c7' : Cl} (hS : SR c1 c8 st S R D H Q M L E K) (hR0 : 0 < R) (p012 : p3 = 0 ∨ p3 = 1 ∨ p3 = 2) (hk : bn (bst S R D H kf) ≤ kf) (hp : P74 c7 sr S R D H rm x c7') {best : Option Nat} (hb : Bst S R H rm x (bst S R D H kf) 46656 best) : (if p3 = 0 then cI c7' 8 sr else if p3 = 1 then cI c7' 9 sr else cI c7' 10 sr) = rsv (bst S R D H kf) p3 best := by
  obtain ⟨⟨-, -, r6⟩, -, ⟨-, -, h6⟩, -⟩ := id hS.1.1
  obtain ⟨Kx, bi⟩ := (bst_ok (D := D) hR0 r6 h6 (q0_ok hS) kf).2
  have q0l := kc_lt (S := S) (R := R) (q0_ok hS)
  have f0 : bfr (bst S R D H kf) (kc S R H (q0 S)) = 1 := by rw [← bi.2.1.2.1]; exact bi.2.1.2.2
  have l0 : laN S H (qs S R H (kc S R H (q0 S))) rm = laN S H (q0 S) rm := laN_cg (q := qs S R H (kc S R H (q0 S))) (q' := q0 S) (fun k a b => qs_kc hR0 (q0_ok hS) a b)
  have at1 : ∀ s, s < R ^ lc S H → bfr (bst S R D H kf) s = 1 → s = kc S R H (q0 S) := fun s hs e => by
    obtain ⟨j, hj, ej⟩ := bi.1.2.2 s hs (by omega)
    by_cases w : j = 0
    · rw [← ej, w]; exact bi.2.1.2.1
    · have := (bi.2.2.2.1 j (Nat.pos_of_ne_zero w) hj).1
      rw [ej] at this
      omega
  have fill : ∀ (v8 v9 v10 : Int32), ((if p3 = 0 then v8 else if p3 = 1 then v9 else v10) = if p3 = 0 then v8 else if p3 = 1 then v9 else v10) := fun _ _ _ => rfl
  rcases hp with ⟨e, g8, g9, g10⟩ | ⟨e, g8, g9, g10, k, hk', ns⟩ | ⟨e, k, h, r, τ, hkn, fd, ns, g8, g9, g10⟩
  · cases best with
    | none => exact absurd (ph_lt hR0 r6 _) (hb (kc S R H (q0 S)) ⟨q0l, by omega, by rw [l0]; exact e⟩)
    | some b =>
      have le := hb.2.2 (kc S R H (q0 S)) ⟨q0l, by omega, by rw [l0]; exact e⟩ (ph_lt hR0 r6 _)
      have b0 := hb.1.2.1
      have fb : bfr (bst S R D H kf) b = 1 := by unfold lle at le; omega
      rw [g8, g9, g10]
      show _ = if p3 = 0 then nI (bfr (bst S R D H kf) b - 1) else if bfr (bst S R D H kf) b = 1 then -2 else _
      by_cases y : p3 = 0
      · rw [if_pos y, if_pos y, fb]; rfl
      · rw [if_neg y, if_neg y, if_pos fb]; split <;> rfl
  · have es : bst S R D H kf = bst S R D H k := by rw [← bst_s hk k, ← bst_s hk' kf, Nat.add_comm]
    cases best with
    | none =>
      rw [g8, g9, g10]
      show _ = (-2 : Int32)
      split
      · rfl
      · split <;> rfl
    | some b =>
      obtain ⟨⟨s1, s2, s3⟩, -⟩ := hb
      obtain ⟨j, hj, ej⟩ := bi.1.2.2 b s1 s2
      rw [es] at hj ej
      exact absurd (by rw [ej]; exact s3) (ns j hj)
  · obtain ⟨hh, hl, hr, eτ, w, y, v⟩ := fd
    obtain ⟨σ, eσ⟩ : ∃ σ, σ = bst S R D H k := ⟨_, rfl⟩
    have bik := (bst_ok (D := D) hR0 r6 h6 (q0_ok hS) k).1 hkn
    rw [← eσ] at bik hkn eτ w y v g8
    obtain ⟨t, et⟩ : ∃ t, t = tg S R H (bu σ k) h r := ⟨_, rfl⟩
    rw [← et] at y v
    have tl : t < R ^ lc S H := by rw [et]; exact tg_lt hR0 hr
    have bx := bex_ok (D := D) hR0 r6 h6 bik hkn h (by omega)
    have ke := (bx_g (h := h) (r := 0) bx.2 hkn).2
    have hkx := Nat.lt_of_lt_of_le hkn bx.2.1
    have bo := brow_ok (D := D) hR0 r6 h6 (by rw [ke]; exact bx.1) hkx hh hl r (by omega)
    rw [← eτ] at bo
    have xx := bx_tr bx.2 bo.2
    have sk : bu τ k = bu σ k := xx.2.1 k hkn
    have fk : bfr τ (bu σ k) = bfr σ (bu σ k) := (xx.2.2 k hkn).1
    have kτ := Nat.lt_of_lt_of_le hkn xx.1
    have e1 : st1 S R D H k h r τ = (bn τ + 1, un (bu τ) (bn τ) t, un (bfr τ) t (bfr τ (bu σ k) + 1), un (bb τ) t (bg1 τ k h r)) := by unfold st1; rw [sk, if_neg w, ← et, if_pos y]
    /- what comes later -/
    have r1 : st1 S R D H k h r τ = brow S R D H k h (bex S R D H k σ h) (r + 1) := by rw [eτ]; rfl
    have x1 := (brow_y (D := D) (r := r + 1) hR0 r6 h6 (by rw [ke]; exact bx.1) hkx hh hl (R - (r + 1)) (by omega)).1
    rw [show r + 1 + (R - (r + 1)) = R by omega, ← r1] at x1
    have x2 : brow S R D H k h (bex S R D H k σ h) R = bex S R D H k σ (h + 1) := by show _ = if lv S h = 0 then bex S R D H k σ h else brow S R D H k h (bex S R D H k σ h) R; rw [if_neg hl]
    have x3 := (bex_y (D := D) (h := h + 1) hR0 r6 h6 bik hkn (H - (h + 1)) (by omega)).1
    rw [show h + 1 + (H - (h + 1)) = H by omega, ← x2] at x3
    have x4 : bst S R D H (k + 1) = bex S R D H k σ H := by show (if k < bn (bst S R D H k) then bex S R D H k (bst S R D H k) H else bst S R D H k) = _; rw [← eσ, if_pos hkn]
    have x5 := bst_xx (D := D) hR0 r6 h6 (q0_ok hS) (k + 1) kf
    rw [show k + 1 + kf = kf + (k + 1) by omega, bst_s hk] at x5
    have XX : BX (st1 S R D H k h r τ) (bst S R D H kf) := bx_tr x1 (bx_tr x3 (by rw [← x4]; exact x5))
    obtain ⟨ω, eω⟩ : ∃ ω, ω = bst S R D H kf := ⟨_, rfl⟩
    rw [← eω] at XX bi hb at1 ⊢
    have n1 : bn (st1 S R D H k h r τ) = bn τ + 1 := by rw [e1]; rfl
    have u1 : bu (st1 S R D H k h r τ) (bn τ) = t := by rw [e1]; exact un_s
    have ut : bu ω (bn τ) = t := by rw [XX.2.1 (bn τ) (by omega), u1]
    have ft := (XX.2.2 (bn τ) (by omega))
    rw [u1] at ft
    have ft1 : bfr ω t = bfr σ (bu σ k) + 1 := by rw [ft.1, e1]; show un (bfr τ) t _ t = _; rw [un_s, fk]
    have bt1 : bb ω t = bg1 τ k h r := by rw [ft.2, e1]; show un (bb τ) t _ t = _; rw [un_s]
    have fp : 0 < bfr σ (bu σ k) := Nat.pos_of_ne_zero (bik.1.1 k hkn).2
    have svt : sv S R H rm x ω t := ⟨tl, by omega, v⟩
    have least : ∀ s, sv S R H rm x ω s → bk ω t ≤ bk ω s := fun s ⟨s1, s2, s3⟩ => by
      obtain ⟨j, hj, ej⟩ := bi.1.2.2 s s1 s2
      have jl : bn τ ≤ j := Nat.le_of_not_lt fun z => by
        have e2 := XX.2.1 j (by omega)
        have e3 : bu (st1 S R D H k h r τ) j = bu τ j := by rw [e1]; exact un_n (by omega)
        rw [ej, e3] at e2
        exact ns j z (by rw [← e2]; exact s3)
      have := bi.2.2.2.2.1 (bn τ) j jl hj
      rw [ut, ej] at this
      exact this
    have b64 : ∀ s, s < R ^ lc S H → bfr ω s ≠ 0 → bb ω s < 64 := fun s h1 h2 => by
      obtain ⟨j, hj, ej⟩ := bi.1.2.2 s h1 h2
      have := (bi.2.2.1 j hj).2
      rw [ej] at this
      exact this
    cases best with
    | none => exact absurd (ph_lt hR0 r6 _) (hb t svt)
    | some b =>
      have le := hb.2.2 t svt (ph_lt hR0 r6 _)
      have ge := least b hb.1
      have c1' := b64 b hb.1.1 hb.1.2.1
      have c2' := b64 t tl (by omega)
      have eq : bfr ω b = bfr ω t ∧ bb ω b = bb ω t := by
        unfold lle at le
        unfold bk at ge
        by_cases z : bfr ω b = 1
        · have := at1 b hb.1.1 z
          have := hb.1.2.2
          omega
        · omega
      rw [g8, g9, g10]
      show _ = if p3 = 0 then nI (bfr ω b - 1) else if bfr ω b = 1 then -2 else if p3 = 1 then nI (bb ω b / 6) else nI (bb ω b % 6)
      rw [eq.1, eq.2, ft1, bt1]
      by_cases z0 : p3 = 0
      · rw [if_pos z0, if_pos z0]; congr 1
      · rw [if_neg z0, if_neg z0, if_neg (show ¬ bfr σ (bu σ k) + 1 = 1 by omega)]
theorem q_gather {p1 p2 p3 : Int32} (h : WM c1 c8 c10 c12 B2 (cR c11 7 B) A X R D H Q L K) (hP : Pw c12 B2) (esr : cR c11 12 B = sr) (e7 : cR c7 0 sr = sc) (hr : Rows c6 d sc P Pq P' Pq' Z Z') (hz : ∀ s, s < Z → cB c13 0 P s = 0) (hz' : ∀ s, s < Z' → cB c13 0 P' s = 0) (hs : SUM c7 sr (cA c12 20 B2) R D H) : ∃ rx rm, F_148 c1 c6 c7 c8 c10 c11 c13 d B p1 p2 p3 = some rx ∧ F_285 c12 B2 p1 p2 p3 = some rm ∧ rx.1 = rm.1 ∧ SQ c6 c7 c12 c13 d sc sr (cA c12 20 B2) R D H [P, Pq, P', Pq'] Z Z' rx.2.1 rx.2.2.1 rm.2 rx.2.2.2.1 rx.2.2.2.2 := by
  obtain ⟨U, hU, hw⟩ := id h
  obtain ⟨a1, a2, a3, ⟨M, E, m9, s⟩, -⟩ := id hw
  have s' := s
  rw [← a1] at s'
  have hN := s'.1.1
  obtain ⟨⟨-, -, r6⟩, -, ⟨-, -, h6⟩, -⟩ := id hN
  have e1 : F_170 p2.toInt64 0 99 = some (if p2 < 0 then 0 else if 99 < p2 then 0 else 1) := f_170 p2 0 99
  have e2 : F_170 p3.toInt64 0 2 = some (if p3 < 0 then 0 else if 2 < p3 then 0 else 1) := f_170 p3 0 2
  have e3 := f_164 p2
  have sq := sq_rf (c12 := c12) hr hz hz' hs
  unfold F_148 F_285
  rcases is1_of (n := R) (p := p1) (by omega) with q | ⟨q, rm, hrm, rfl⟩
  · exact ⟨_, _, ob_mk (f_160 hN) (in_pos q rfl), ob_mk (f_219 hN) (in_pos q rfl), rfl, sq⟩
  have q0' : ¬ is1 R (nI rm) = 0 := by rw [q]; decide
  have hR0 : 0 < R := Nat.lt_of_le_of_lt (Nat.zero_le _) hrm
  by_cases w1 : p2 < 0
  · rw [if_pos w1] at e1 e3
    exact ⟨_, _, ob_mk (f_160 hN) (in_neg q0' (ob_mk e3 (in_pos rfl rfl))), ob_mk (f_219 hN) (in_neg q0' (ob_mk e1 (in_pos rfl rfl))), rfl, sq⟩
  rw [if_neg w1] at e1 e3
  by_cases w2 : 99 < p2
  · rw [if_pos w2] at e1 e3
    exact ⟨_, _, ob_mk (f_160 hN) (in_neg q0' (ob_mk e3 (in_pos rfl rfl))), ob_mk (f_219 hN) (in_neg q0' (ob_mk e1 (in_pos rfl rfl))), rfl, sq⟩
  rw [if_neg w2] at e1 e3
  by_cases w3 : p3 < 0
  · rw [if_pos w3] at e2
    exact ⟨_, _, ob_mk (f_160 hN) (in_neg q0' (ob_mk e3 (in_neg (by decide) (in_pos w3 rfl)))), ob_mk (f_219 hN) (in_neg q0' (ob_mk e1 (in_neg (by decide) (ob_mk e2 (in_pos rfl rfl))))), rfl, sq⟩
  rw [if_neg w3] at e2
  by_cases w4 : 2 < p3
  · rw [if_pos w4] at e2
    exact ⟨_, _, ob_mk (f_160 hN) (in_neg q0' (ob_mk e3 (in_neg (by decide) (in_neg w3 (in_neg (Int32.not_le.mpr w4) rfl))))), ob_mk (f_219 hN) (in_neg q0' (ob_mk e1 (in_neg (by decide) (ob_mk e2 (in_pos rfl rfl))))), rfl, sq⟩
  rw [if_neg w4] at e2
  obtain ⟨x, hx, rfl⟩ := nI_of2 (M := 99) (n := 99) rfl w1 (Int32.not_lt.mp w2)
  have p012 : p3 = 0 ∨ p3 = 1 ∨ p3 = 2 := by
    obtain ⟨j, hj, rfl⟩ := nI_of2 (M := 2) (n := 2) rfl w3 (Int32.not_lt.mp w4)
    rcases (show j = 0 ∨ j = 1 ∨ j = 2 by omega) with rfl | rfl | rfl
    · exact Or.inl rfl
    · exact Or.inr (Or.inl rfl)
    · exact Or.inr (Or.inr rfl)
  obtain ⟨rx, x1, x2, x3, x4, x5, x6, x7⟩ := f_74 (c6 := c6) (c7 := c7) (c13 := c13) (d := d) (rm := rm) (x := x) s' hR0 e7 (by omega) hrm hr hz hz'
  obtain ⟨r7, y1, y2, kf, y3, y4⟩ := f_284 (D := D) (c0 := c12) (B2 := B2) s hR0 rfl hP
  obtain ⟨Kk, bi⟩ := (bst_ok (D := D) hR0 r6 h6 (q0_ok s) kf).2
  obtain ⟨rm', m1, m2, best, m3, m4⟩ := gl_285 (Kx := 0) (c0 := r7) (p3 := p3) (x := x) s hR0 (by rw [(y2 20 (by decide)).2.2.2.1]) (pw_k y2 (by decide) hP) hrm (by omega) bi y4 46656 0 r7 none rfl (kp_rf _ _) (fun s _ => Nat.not_lt_zero _)
  have ans := gat_ok (D := D) s hR0 p012 y3 x7 m3
  have sq' : SQ c6 c7 c12 c13 d sc sr (cA c12 20 B2) R D H [P, Pq, P', Pq'] Z Z' rx.1 rx.2.1 rm'.2 rx.2.2.1 rx.2.2.2 := ⟨x2, x3, kp_wd x4 (by decide), x5, fun r0 z => by
    have z' : ¬ cI c7 1 sr = 0 := by rw [← (x4 1 (by decide)).1]; exact z
    obtain ⟨b1, b2, b3, b4, b5⟩ := hs r0 z'
    refine ⟨by rw [(x4 2 (by decide)).2.1]; exact b1, by rw [(x4 3 (by decide)).1]; exact b2, fun h a b => by rw [(x4 6 (by decide)).2.2.2.1]; exact b3 h a b, by rw [(x4 4 (by decide)).1]; exact b4, by rw [(x4 5 (by decide)).1]; exact b5⟩, rz_wk x6 (by decide), kp_tr (kp_wd y2 (by decide)) (kp_wd m2 (by decide))⟩
  refine ⟨(if p3 = 0 then cI rx.2.1 8 sr else if p3 = 1 then cI rx.2.1 9 sr else cI rx.2.1 10 sr, rx.1, rx.2.1, rx.2.2.1, rx.2.2.2), rm', ob_mk (f_160 hN) (in_neg q0' (ob_mk e3 (in_neg (by decide) (in_neg w3 (in_pos (Int32.not_lt.mp w4) ?_))))), ob_mk (f_219 hN) (in_neg q0' (ob_mk e1 (in_neg (by decide) (ob_mk e2 (in_neg (by decide) (ob_mk y1 m1)))))), by dsimp only; rw [ans, m4], sq'⟩
  rw [esr]
  refine ob_mk x1 ?_
  by_cases z0 : p3 = 0
  · rw [show (if p3 = 0 then cI rx.2.1 8 sr else if p3 = 1 then cI rx.2.1 9 sr else cI rx.2.1 10 sr) = cI rx.2.1 8 sr from if_pos z0]
    exact in_pos z0 rfl
  · by_cases z1 : p3 = 1
    · rw [show (if p3 = 0 then cI rx.2.1 8 sr else if p3 = 1 then cI rx.2.1 9 sr else cI rx.2.1 10 sr) = cI rx.2.1 9 sr from (if_neg z0).trans (if_pos z1)]
      exact in_neg z0 (ob_mk (in_pos z1 rfl) rfl)
    · rw [show (if p3 = 0 then cI rx.2.1 8 sr else if p3 = 1 then cI rx.2.1 9 sr else cI rx.2.1 10 sr) = cI rx.2.1 10 sr from (if_neg z0).trans (if_neg z1)]
      exact in_neg z0 (ob_mk (in_neg z1 rfl) rfl)
end Gather2
