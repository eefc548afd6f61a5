/-! ===== gather: both alike ===== -/
section Gather
variable {c1 c6 c7 c8 c10 c11 c12 c13 : Cl} {d : Ad} {B B2 sc sr st : Nat} {S : Nat → Int32} {A : Nat → Nat} {X R D H Q M L E : Nat} {K : Nat → Nat}
/-- what the class's search comes to -/
def P76 (c7 : Cl) (sr : Nat) (S : Nat → Int32) (R D H rm x : Nat) (c7' : Cl) : Prop := (c7' = c7 ∧ ∃ k, bn (bst S R D H k) ≤ k ∧ NoS S R H rm x (bst S R D H k)) ∨ (Kp [8, 9, 10] c7 c7' ∧ Oth sr c7 c7' ∧ ∃ k h r τ, k < bn (bst S R D H k) ∧ FD S R D H rm x k h r (bst S R D H k) τ ∧ NoS S R H rm x τ ∧ cI c7' 8 sr = nI (bfr (bst S R D H k) (bu (bst S R D H k) k)) ∧ cI c7' 9 sr = nI (bg1 τ k h r / 6) ∧ cI c7' 10 sr = nI (bg1 τ k h r % 6))
theorem gl_76 {P Pq Z rm x : Nat} {c6z : Cl} (hS : SR c1 c8 st S R D H Q M L E K) (hR0 : 0 < R) (hC : SC c6z sc S R D H Q) (hs : Sk c6z c7 d sr sc P Pq Z rm x (R ^ lc S H)) (hrm : rm < R) (e8 : cI c7 8 sr = -2) : ∀ (m k LE lvl : Nat) (c6' c' : Cl), k + m = R ^ lc S H → k ≤ LE → LE ≤ bn (bst S R D H k) → (∀ j, k ≤ j → j < LE → bfr (bst S R D H k) (bu (bst S R D H k) j) = lvl) → (∀ j, LE ≤ j → j < bn (bst S R D H k) → bfr (bst S R D H k) (bu (bst S R D H k) j) = lvl + 1) → Kp [10, 11] c6z c6' → Oth sc c6z c6' → Ota [P, Pq] c13 c' → CB c' P Pq Z S R H (bst S R D H k) → NoS S R H rm x (bst S R D H k) → Rn (G_76 d sr 0 [nI (bn (bst S R D H k)), nI LE, nI lvl, nI k] [] [] c6' c7 c') (fun q => Kp [10, 11] c6z q.1 ∧ Oth sc c6z q.1 ∧ q.2.2.2 = d ∧ Ota [P, Pq] c13 q.2.2.1 ∧ (∀ s, s < Z → cB q.2.2.1 0 P s = 0) ∧ P76 c7 sr S R D H rm x q.2.1) := fun m => by
  obtain ⟨⟨-, -, r6⟩, -, ⟨-, -, h6⟩, -⟩ := id hS.1.1
  obtain ⟨e7, e12, e14, n1, n2, hN, hZ, e11, ex, x100⟩ := id hs
  have sz := pow_sz (S := S) r6 h6
  /- the end -/
  have fin : ∀ (τ : Bq) (c6' c7' c' : Cl), Kp [10, 11] c6z c6' → Oth sc c6z c6' → Ota [P, Pq] c13 c' → cR c7' 0 sr = sc → CB c' P Pq Z S R H τ → P76 c7 sr S R D H rm x c7' → Rn (G_76 d sr 1 [nI (bn τ)] [] [] c6' c7' c') (fun q => Kp [10, 11] c6z q.1 ∧ Oth sc c6z q.1 ∧ q.2.2.2 = d ∧ Ota [P, Pq] c13 q.2.2.1 ∧ (∀ s, s < Z → cB q.2.2.1 0 P s = 0) ∧ P76 c7 sr S R D H rm x q.2.1) := fun τ c6' c7' c' k6 o6 hO e0 h1 h2 => by
    rw [G_76, e0]
    refine rn_b (f_56 (c6 := c6') (sc := sc) (by rw [(k6 12 (by decide)).2.2.1]; exact e12) (by rw [(k6 14 (by decide)).2.2.1]; exact e14) n1 n2 hN hZ h1) (fun r ⟨a, b, c⟩ => rn_r ⟨k6, o6, rfl, ota_tr hO (ota_o a (by simp)), c, h2⟩)
  have none : ∀ (k LE lvl : Nat) (c6' c' : Cl), bn (bst S R D H k) ≤ k → k ≤ R ^ lc S H → Kp [10, 11] c6z c6' → Oth sc c6z c6' → Ota [P, Pq] c13 c' → CB c' P Pq Z S R H (bst S R D H k) → NoS S R H rm x (bst S R D H k) → Rn (G_76 d sr 0 [nI (bn (bst S R D H k)), nI LE, nI lvl, nI k] [] [] c6' c7 c') (fun q => Kp [10, 11] c6z q.1 ∧ Oth sc c6z q.1 ∧ q.2.2.2 = d ∧ Ota [P, Pq] c13 q.2.2.1 ∧ (∀ s, s < Z → cB q.2.2.1 0 P s = 0) ∧ P76 c7 sr S R D H rm x q.2.1) := fun k LE lvl c6' c' hk kN k6 o6 hO h1 h2 => by
    have f := fin (bst S R D H k) c6' c7 c' k6 o6 hO e7 h1 (Or.inl ⟨rfl, k, hk, h2⟩)
    have es : cI c6' 2 (cR c7 0 sr) = nI (R ^ lc S H) := by rw [e7, (k6 2 (by decide)).1]; exact hC.2.2.1
    rw [G_76, es]
    exact rn_i (fun _ => f) (fun _ => rn_p (nI_le hk (by omega)) f)
  induction m with
  | zero =>
    intro k LE lvl c6' c' hm a1 a2 a3 a4 k6 o6 hO h1 h2
    obtain ⟨Kx, bi⟩ := (bst_ok (D := D) hR0 r6 h6 (q0_ok hS) k).2
    have nN := uq_n bi.1
    exact none k LE lvl c6' c' (by omega) (by omega) k6 o6 hO h1 h2
  | succ m ih =>
    intro k LE lvl c6' c' hm a1 a2 a3 a4 k6 o6 hO h1 h2
    obtain ⟨Kx, bi⟩ := (bst_ok (D := D) hR0 r6 h6 (q0_ok hS) k).2
    have nN := uq_n bi.1
    by_cases w : k < bn (bst S R D H k)
    · have bik := (bst_ok (D := D) hR0 r6 h6 (q0_ok hS) k).1 w
      have nx : bst S R D H (k + 1) = bex S R D H k (bst S R D H k) H := by show (if k < bn (bst S R D H k) then bex S R D H k (bst S R D H k) H else bst S R D H k) = _; rw [if_pos w]
      obtain ⟨σ, eσ⟩ : ∃ σ, σ = bst S R D H k := ⟨_, rfl⟩
      rw [← eσ] at a2 a3 a4 h1 h2 bik nx w nN bi ⊢
      have es : cI c6' 2 sc = nI (R ^ lc S H) := by rw [(k6 2 (by decide)).1]; exact hC.2.2.1
      /- the level -/
      obtain ⟨LE', lv', t9, q1, q2, q3, q4, q5⟩ : ∃ LE' lv', ((if nI k = nI LE then some (nI (bn σ), nI lvl + 1) else some (nI LE, nI lvl)) : Option (Int32 × Int32)) = some (nI LE', nI lv') ∧ k < LE' ∧ LE' ≤ bn σ ∧ (∀ j, k ≤ j → j < LE' → bfr σ (bu σ j) = lv') ∧ (∀ j, LE' ≤ j → j < bn σ → bfr σ (bu σ j) = lv' + 1) ∧ bfr σ (bu σ k) = lv' := by
        by_cases y : k = LE
        · refine ⟨bn σ, lvl + 1, in_pos (by rw [y]) (by rw [nI_1]), w, Nat.le_refl _, fun j g1 g2 => a4 j (by omega) g2, fun j g1 g2 => by omega, a4 k (by omega) w⟩
        · refine ⟨LE, lvl, in_neg (fun e => y ((nI_eq (by omega) (by omega)).mp e)) rfl, by omega, a2, a3, a4, a3 k (Nat.le_refl _) (by omega)⟩
      rw [G_76, e7, es, show cR c6' 14 sc = Pq by rw [(k6 14 (by decide)).2.2.1]; exact e14, n2]
      refine rn_n (nI_ge (by omega) (by omega)) (rn_n (nI_ge w (by omega)) (rn_p e8 (rn_e t9 (rn_ld (by omega) (by omega) ?_))))
      rw [(h1.2.2.1 k w).1]
      dsimp only
      have f77 := f_77 (c6 := c6') (c7 := c7) (c13 := c') (d := d) (rm := rm) (x := x) (k := k) (σ := σ) hS hR0 (SC_k k6 (by decide) hC) (sk_k hs k6) hrm bik w h1 h2
      rw [q5] at f77
      refine rn_b f77 (fun q ⟨p1, p2, p3, p4⟩ => ?_)
      have k6' := kp_tr k6 p1
      have o6' := oth_tr o6 p2
      have hO' := ota_tr hO p3
      rcases p4 with ⟨g1, g2, g3, g4⟩ | ⟨h, r, τ, g1, g2, g3, g4, g5, g6, g7, g8, g9⟩
      · rw [g1, g2, ← nx, nI_1]
        rw [← nx] at g3 g4
        have yy := bex_y (D := D) (σ := σ) (h := 0) hR0 r6 h6 bik w H (by omega)
        rw [Nat.zero_add, ← nx, q5] at yy
        have y0 : BY σ (bst S R D H (k + 1)) (lv' + 1) := yy
        refine ih (k + 1) LE' lv' q.2.1 q.2.2.2 (by omega) (by omega) (Nat.le_trans q2 y0.1.1) (fun j j1 j2 => ?_) (fun j j1 j2 => ?_) k6' o6' hO' g3 g4
        · rw [y0.1.2.1 j (by omega), (y0.1.2.2 j (by omega)).1]; exact q3 j (by omega) j2
        · by_cases z : j < bn σ
          · rw [y0.1.2.1 j z, (y0.1.2.2 j z).1]; exact q4 j j1 z
          · exact y0.2 j (by omega) j2
      · have e0 : cR q.2.2.1 0 sr = sc := by rw [(g5 0 (by decide)).2.2.1]; exact e7
        have f := fin τ q.2.1 q.2.2.1 q.2.2.2 k6' o6' hO' e0 g3 (Or.inr ⟨g5, g6, k, h, r, τ, by rw [← eσ]; exact w, by rw [← eσ]; exact g1, g4, by rw [← eσ]; exact g7, g8, g9⟩)
        rw [g2, nI_1, G_76]
        refine rn_i (fun _ => f) (fun _ => rn_i (fun _ => f) (fun _ => rn_n (fun z => ?_) f))
        rw [g7] at z
        have p : ¬ nI (bfr σ (bu σ k)) < 0 := nI_pos (by have := (bi.2.2.1 k w).1; omega)
        rw [z] at p
        exact p (by decide)
    · exact none k LE lvl c6' c' (by omega) (by omega) k6 o6 hO h1 h2
end Gather
