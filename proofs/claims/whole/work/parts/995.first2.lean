/-! ===== first: both alike ===== -/
section First2
variable {c1 c6 c7 c8 c10 c11 c12 c13 : Cl} {d : Ad} {B B2 sc sr w st : Nat} {S : Nat → Int32} {A : Nat → Nat} {X R D H Q M L E P Pq P' Pq' Z Z' : Nat} {K : Nat → Nat}
theorem rz_tr {c6' c' : Cl} {d' : Ad} {d0 : Ad} {c0 : Cl} {L0 : List Nat} {Z0 Z0' k j : Nat} (hm : RM d0 L0 d [P, Pq, P', Pq']) (hs : Ms d0 Z0 Z0' d Z Z' k) (ho : Ofa (aX d0) L0 c0 c13) (h : RZt c6' c' d' sc d c13 [P, Pq, P', Pq'] Z Z' j) : RZt c6' c' d' sc d0 c0 L0 Z0 Z0' (k + j) := by
  obtain ⟨P2, Pq2, P2', Pq2', Z2, Z2', a, b, e, g, i, o⟩ := h
  exact ⟨P2, Pq2, P2', Pq2', Z2, Z2', a, b, e, rm_tr hm g, ms_tr hs i, ofa_tr ho hm o⟩
theorem f_67 {k : Nat} (hS : SR c1 c8 (cR c10 0 w) S R D H Q M L E K) (hR0 : 0 < R) (k12 : k ≤ 12) (hT : TdR S Q k) (hc : TdC c10 w S k) (e7 : cR c7 0 sr = sc) (hr : Rows c6 d sc P Pq P' Pq' Z Z') (hz : ∀ s, s < Z → cB c13 0 P s = 0) (hz' : ∀ s, s < Z' → cB c13 0 P' s = 0) : Rn (F_67 c1 c6 c7 c8 c10 c13 d sr w (nI k)) (fun r => r.1 = (if sn (wy S R D H k (mx S k)) (R ^ lc S H) = 0 then 0 else 1) ∧ Kp [0, 1, 2, 3, 4, 5, 6, 7, 8, 9, 10, 11, 12, 13, 14, 15] c6 r.2.1 ∧ Oth sc c6 r.2.1 ∧ RZt r.2.1 r.2.2.1 r.2.2.2 sc d c13 [P, Pq, P', Pq'] Z Z' 18) := by
  obtain ⟨⟨-, -, r6⟩, -, ⟨-, -, h6⟩, -⟩ := id hS.1.1
  have sz := pow_sz (S := S) r6 h6
  unfold F_67
  refine rn_b (f_68 (c6 := c6) (c7 := c7) (c13 := c13) (d := d) (sr := sr) hS hR0 k12 hT hc e7 hr hz hz') (fun r2 ⟨b1, b2, b3, n, b4, b5⟩ => ?_)
  rw [b4, e7]
  refine rn_b (rst_end sz b5) (fun r5 g => ?_)
  have en : n = sn (fun s => if wy S R D H k (mx S k) s = 0 then 0 else 1) (R ^ lc S H) := by
    obtain ⟨Pa, Pqa, Pa', Pqa', Za, Za', u, q1, q2, q3, q4⟩ := id b5
    exact aq_cnt q3
  have nN : n ≤ 46656 := by
    obtain ⟨Pa, Pqa, Pa', Pqa', Za, Za', u, q1, q2, q3, q4⟩ := id b5
    exact Nat.le_trans (aq_n q3) sz
  by_cases v : sn (wy S R D H k (mx S k)) (R ^ lc S H) = 0
  · have n0 : n = 0 := by rw [en]; exact cnt_em.mpr v
    refine rn_e (v := 0) (in_pos (by rw [n0]; decide) rfl) (rn_e (v := 0) rfl (rn_r ⟨(if_pos v).symm, b1, b2, g⟩))
  · have n0 : 0 < n := Nat.pos_of_ne_zero fun e => v (cnt_em.mp (by rw [← en]; exact e))
    refine rn_e (v := 1) (in_neg (nI_nle n0 (by omega)) rfl) (rn_e (v := 1) rfl (rn_r ⟨(if_neg v).symm, b1, b2, g⟩))
theorem td_le {k j : Nat} (h : TdR S Q k) (hj : j ≤ k) : TdR S Q j := fun i hi => h i (by omega)
theorem tc_le {k j : Nat} (h : TdC c10 w S k) (hj : j ≤ k) : TdC c10 w S j := fun i hi => h i (by omega)
/-- by halves -/
theorem gl_66 {k : Nat} {d0 : Ad} {c0 c6z : Cl} {L0 : List Nat} {Z0 Z0' : Nat} (hS : SR c1 c8 (cR c10 0 w) S R D H Q M L E K) (hR0 : 0 < R) (k12 : k ≤ 12) (hT : TdR S Q k) (hc : TdC c10 w S k) (e7 : cR c7 0 sr = sc) : ∀ (m lo hi i : Nat) (c6' c' : Cl) (d' : Ad), lo < hi → hi ≤ k → hi - lo + i ≤ 12 → i + m = 12 → ¬ em S R D H lo → em S R D H hi → Kp [0, 1, 2, 3, 4, 5, 6, 7, 8, 9, 10, 11, 12, 13, 14, 15] c6z c6' → Oth sc c6z c6' → RZt c6' c' d' sc d0 c0 L0 Z0 Z0' (18 + 18 * i) → Rn (G_66 c1 c7 c8 c10 sr w 0 [nI lo, nI hi, nI i] [] [] c6' c' d') (fun r => ∃ x, r.1 = nI x ∧ x < k ∧ ¬ em S R D H x ∧ em S R D H (x + 1) ∧ r.2.2.1 = c7 ∧ Kp [0, 1, 2, 3, 4, 5, 6, 7, 8, 9, 10, 11, 12, 13, 14, 15] c6z r.2.1 ∧ Oth sc c6z r.2.1 ∧ RZt r.2.1 r.2.2.2.1 r.2.2.2.2 sc d0 c0 L0 Z0 Z0' 260)
  | 0, lo, hi, i, c6', c', d', a1, a2, a3, a4, a5, a6, hK, hO, hz => by omega
  | m + 1, lo, hi, i, c6', c', d', a1, a2, a3, a4, a5, a6, hK, hO, hz => by
    rw [G_66]
    refine rn_n (show ¬ (12 : Int32) ≤ nI i from nI_ge (a := i) (b := 12) (by omega) (by decide)) ?_
    rw [pk_sub (by omega)]
    by_cases y : hi - lo ≤ 1
    · refine rn_p (show nI (hi - lo) ≤ nI 1 from nI_le y (by omega)) (rn_r ⟨hi - 1, ?_, by omega, ?_, ?_, rfl, hK, hO, rz_wk hz (by omega)⟩)
      · exact pk_sub (a := hi) (b := 1) (by omega)
      · rw [show hi - 1 = lo by omega]; exact a5
      · rw [show hi - 1 + 1 = hi by omega]; exact a6
    · obtain ⟨mid, hmid⟩ : ∃ mid, mid = (lo + hi) / 2 := ⟨_, rfl⟩
      have m1 : lo < mid := by omega
      have m2 : mid < hi := by omega
      refine rn_n (show ¬ nI (hi - lo) ≤ nI 1 from nI_ge (by omega) (by omega)) (rn_e (v := nI mid) ?_ ?_)
      · rw [nI_add, hmid]
        unfold idv
        rw [if_neg (by decide)]
        exact congrArg some (pk_div (a := lo + hi) (d := 2) (by omega) (by decide) (by decide))
      · obtain ⟨P, Pq, P', Pq', Z, Z', b1, b2, b3, b4, b5, b6⟩ := hz
        refine rn_b (f_67 (c6 := c6') (c7 := c7) (c13 := c') (d := d') (k := mid) hS hR0 (by omega) (td_le hT (by omega)) (tc_le hc (by omega)) e7 b1 b2 b3) (fun r ⟨r1, r2, r3, r4⟩ => ?_)
        have hz2 := rz_tr b4 b5 b6 r4
        rw [r1]
        by_cases v : sn (wy S R D H mid (mx S mid)) (R ^ lc S H) = 0
        · rw [if_pos v]
          refine rn_e (in_pos rfl rfl) ?_
          dsimp only
          rw [nI_1]
          exact gl_66 hS hR0 k12 hT hc e7 m lo mid (i + 1) r.2.1 r.2.2.1 r.2.2.2 m1 (by omega) (by omega) (by omega) a5 v (kp_tr hK r2) (oth_tr hO r3) (rz_wk hz2 (by omega))
        · rw [if_neg v]
          refine rn_e (in_neg (by decide) rfl) ?_
          dsimp only
          rw [nI_1]
          exact gl_66 hS hR0 k12 hT hc e7 m mid hi (i + 1) r.2.1 r.2.2.1 r.2.2.2 m2 a2 (by omega) (by omega) v a6 (kp_tr hK r2) (oth_tr hO r3) (rz_wk hz2 (by omega))
/-- one after the other, by the reference -/
theorem gl_266 {k : Nat} {c0 : Cl} (hS : SR c1 c8 st S R D H Q M L E K) (hR0 : 0 < R) (eS : cA c0 20 B2 = S) (hP : Pw c0 B2) (k12 : k ≤ 12) (hk : S 220 = nI k) (hT : TdR S Q k) : ∀ (m i : Nat) (c' : Cl), i + m = k → (∀ j, j ≤ i → ¬ em S R D H j) → Kp [24, 26, 27] c0 c' → Rn (G_266 B2 0 [nI i] [] [] c') (fun r => ((∃ x, r.1 = nI x ∧ x < k ∧ (∀ j, j ≤ x → ¬ em S R D H j) ∧ em S R D H (x + 1)) ∨ (r.1 = -2 ∧ ¬ em S R D H k)) ∧ Kp [24, 26, 27] c0 r.2)
  | 0, i, c', hi, h1, hK => by
    have : i = k := by omega
    subst this
    have eS' : cA c' 20 B2 = S := by rw [(hK 20 (by decide)).2.2.2.1]; exact eS
    rw [G_266, eS']
    exact rn_e (ald_ok (i := 220) (by decide) (by decide)) (rn_p (by rw [hk]; exact nI_le (Nat.le_refl _) (by omega)) (rn_r ⟨Or.inr ⟨rfl, h1 _ (Nat.le_refl _)⟩, hK⟩))
  | m + 1, i, c', hi, h1, hK => by
    obtain ⟨⟨-, -, r6⟩, -, ⟨-, -, h6⟩, -⟩ := id hS.1.1
    have eS' : cA c' 20 B2 = S := by rw [(hK 20 (by decide)).2.2.2.1]; exact eS
    rw [G_266, eS']
    refine rn_e (ald_ok (i := 220) (by decide) (by decide)) (rn_n (by rw [hk]; exact nI_ge (by omega) (by omega)) ?_)
    rw [nI_1]
    refine rn_b (f_263 (c0 := c') (k := i + 1) hS hR0 eS' (pw_k hK (by decide) hP) (by omega) (td_le hT (by omega))) (fun r ⟨r1, r2, r3⟩ => ?_)
    have b := wy_b (S := S) (D := D) (k := i + 1) (m := mx S (i + 1)) hR0 r6 h6 (mx_8 (td_le hT (by omega))) (q0_ok hS)
    rw [r1]
    by_cases v : sn (wy S R D H (i + 1) (mx S (i + 1))) (R ^ lc S H) = 0
    · exact rn_p (lgz.mpr (by rw [v]; rfl)) (rn_r ⟨Or.inl ⟨i, rfl, by omega, h1, v⟩, kp_tr hK r3⟩)
    · refine rn_n (fun z => v ((lN_z b).mp (lgz.mp z))) ?_
      exact gl_266 hS hR0 eS hP k12 hk hT m (i + 1) r.2 (by omega) (fun j hj => by
        by_cases y : j = i + 1
        · rw [y]; exact v
        · exact h1 j (by omega)) (kp_tr hK r3)
theorem q_first (h : WM c1 c8 c10 c12 B2 (cR c11 7 B) A X R D H Q L K) (hP : Pw c12 B2) (esr : cR c11 12 B = sr) (e7 : cR c7 0 sr = sc) (hr : Rows c6 d sc P Pq P' Pq' Z Z') (hz : ∀ s, s < Z → cB c13 0 P s = 0) (hz' : ∀ s, s < Z' → cB c13 0 P' s = 0) (hs : SUM c7 sr (cA c12 20 B2) R D H) : ∃ rx rm, F_142 c1 c6 c7 c8 c10 c11 c13 d B = some rx ∧ F_266 c12 B2 = some rm ∧ rx.1 = rm.1 ∧ SQ c6 c7 c12 c13 d sc sr (cA c12 20 B2) R D H [P, Pq, P', Pq'] Z Z' rx.2.1 rx.2.2.1 rm.2 rx.2.2.2.1 rx.2.2.2.2 := by
  obtain ⟨U, hU, hw⟩ := id h
  obtain ⟨k, k12, t1, t2, t3, t4, t5⟩ := told_ok hw
  obtain ⟨a1, a2, a3, ⟨M, E, m9, s⟩, -⟩ := id hw
  have s' := s
  rw [← a1] at s'
  have hN := s'.1.1
  obtain ⟨⟨-, -, r6⟩, -, ⟨-, -, h6⟩, -⟩ := id hN
  unfold F_142 F_266
  by_cases q : hh1 R = 0
  · exact ⟨_, _, ob_mk (f_157 hN) (ob_mk (in_pos q rfl) rfl), ob_mk (f_218 hN) (in_pos q rfl), rfl, sq_rf hr hz hz' hs⟩
  have hR0 : 0 < R := Nat.pos_of_ne_zero fun e => q (by unfold hh1; rw [e]; rfl)
  obtain ⟨rx, x1, x2, x3, x4, x5, x6, x7, x8⟩ := sum_ok (c6 := c6) (c7 := c7) (c12 := c12) (c13 := c13) (d := d) (sr := sr) s' hR0 k12 t1 t3 t5 t4 e7 hr hz hz' hs
  obtain ⟨rm, m1, m2, m3⟩ := gl_266 (c0 := c12) s hR0 rfl hP k12 t2 t5 k 0 c12 (by omega) (fun j hj => by rw [Nat.le_zero.mp hj]; exact em_0 (q0_ok s)) (kp_rf _ _)
  have e7' : cR rx.2.1 0 sr = sc := by rw [(x3 0 (by decide)).2.2.1]; exact e7
  by_cases v : em (cA c12 20 B2) R D H k
  · have k0 : 0 < k := Nat.pos_of_ne_zero fun e => em_0 (q0_ok s) (by rw [e] at v; exact v)
    obtain ⟨ry, y1, x, y2, y3, y4, y5, y6, y7, y8, y9⟩ := gl_66 (c7 := rx.2.1) (c6z := c6) s' hR0 k12 t5 t4 e7' 12 0 k 0 rx.1 rx.2.2.1 rx.2.2.2 k0 (Nat.le_refl _) (by omega) rfl (em_0 (q0_ok s)) v x5 x6 x8
    have c0 : sn (fun s => if wy (cA c12 20 B2) R D H k (mx (cA c12 20 B2) k) s = 0 then 0 else 1) (R ^ lc (cA c12 20 B2) H) = 0 := cnt_em.mpr v
    have f66 : F_66 c1 c6 c7 c8 c10 c13 d sr (cR c11 7 B) = some ry := by
      unfold F_66
      exact ob_mk x1 (in_pos (by rw [x2.2.1, c0]; decide) (by rw [t1]; exact y1))
    refine ⟨(ry.1, ry.2.1, ry.2.2.1, ry.2.2.2.1, ry.2.2.2.2), rm, ob_mk (f_157 hN) (ob_mk (in_neg q (by rw [esr]; exact ob_mk f66 rfl)) rfl), ob_mk (f_218 hN) (in_neg q m1), ?_, ?_⟩
    · dsimp only
      rcases m2 with ⟨x', g1, g2, g3, g4⟩ | ⟨-, g2⟩
      · have : x = x' := by
          rcases Nat.lt_trichotomy x x' with z | z | z
          · exact absurd y5 (g3 (x + 1) (by omega))
          · exact z
          · have := em_m g4 (x - (x' + 1))
            rw [show x' + 1 + (x - (x' + 1)) = x by omega] at this
            exact absurd this y4
        rw [y2, g1, this]
      · exact absurd v g2
    · refine ⟨y7, y8, by rw [y6]; exact kp_wd x3 (by decide), by rw [y6]; exact x7, fun _ _ => ?_, y9, kp_wd m3 (by decide)⟩
      dsimp only
      rw [y6, t3]; exact x2
  · have c0 : sn (fun s => if wy (cA c12 20 B2) R D H k (mx (cA c12 20 B2) k) s = 0 then 0 else 1) (R ^ lc (cA c12 20 B2) H) ≠ 0 := fun z => v (cnt_em.mp z)
    have cl : sn (fun s => if wy (cA c12 20 B2) R D H k (mx (cA c12 20 B2) k) s = 0 then 0 else 1) (R ^ lc (cA c12 20 B2) H) ≤ 46656 := by
      have := sn_le (f := fun s => if wy (cA c12 20 B2) R D H k (mx (cA c12 20 B2) k) s = 0 then 0 else 1) (g := fun _ => 1) (n := R ^ lc (cA c12 20 B2) H) (fun i _ => by show (if wy (cA c12 20 B2) R D H k (mx (cA c12 20 B2) k) i = 0 then 0 else 1) ≤ 1; split <;> omega)
      rw [sn_k, Nat.mul_one] at this
      exact Nat.le_trans this (pow_sz r6 h6)
    have f66 : F_66 c1 c6 c7 c8 c10 c13 d sr (cR c11 7 B) = some (-2, rx.1, rx.2.1, rx.2.2.1, rx.2.2.2) := by
      unfold F_66
      exact ob_mk x1 (in_neg (by rw [x2.2.1]; exact nI_nle (by omega) (by omega)) rfl)
    refine ⟨(-2, rx.1, rx.2.1, rx.2.2.1, rx.2.2.2), rm, ob_mk (f_157 hN) (ob_mk (in_neg q (by rw [esr]; exact ob_mk f66 rfl)) rfl), ob_mk (f_218 hN) (in_neg q m1), ?_, x4 _ (kp_wd m3 (by decide))⟩
    dsimp only
    rcases m2 with ⟨x', g1, g2, g3, g4⟩ | ⟨g1, -⟩
    · have := em_m g4 (k - (x' + 1))
      rw [show x' + 1 + (k - (x' + 1)) = k by omega] at this
      exact absurd this v
    · rw [g1]
end First2
