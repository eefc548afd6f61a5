/-! ===== goings listed alike ===== -/
section Known
variable {c1 c6 c8 c9 c12 : Cl} {sc st wa B2 : Nat} {S : Nat → Int32} {R D H Q M L E : Nat} {K : Nat → Nat}
/-- one going, in both rows -/
def Go1 (S : Nat → Int32) (R H : Nat) (c9 : Cl) (wa : Nat) (c12 : Cl) (B2 k h r : Nat) : Prop := h < H ∧ ¬ lv S h = 0 ∧ r < R ∧ q0 S h < R ∧ r ≠ q0 S h ∧ cA c12 29 B2 k = nI h ∧ cA c12 30 B2 k = nI r ∧ cA c9 2 wa k = nI (q0 S h) ∧ cA c9 3 wa k = nI r ∧ cA c9 4 wa k = S (40 + 6 * h + 1)
def GoR (S : Nat → Int32) (R H : Nat) (c9 : Cl) (wa : Nat) (c12 : Cl) (B2 N : Nat) : Prop := cI c9 1 wa = nI N ∧ cI c12 31 B2 = nI N ∧ ∀ k, k < N → ∃ h r, Go1 S R H c9 wa c12 B2 k h r
theorem no_self (hS : SR c1 c8 st S R D H Q M L E K) {x : Nat} (hx : x < R) : bit1 (bs S (nI x) D) (nI x) = 0 := by
  have r6 := hS.1.1.1.2.2
  have d10 := hS.1.1.2.1.2.2
  have hd : ∀ i, i < D → ∃ u v, u < 6 ∧ v < 6 ∧ S (10 + 3 * i) = nI u ∧ S (10 + 3 * i + 1) = nI v := fun i q => by
    obtain ⟨-, -, -, u, v, hu, hv, -, eu, ev⟩ := hS.1.2.2.2.2.2.1 i q
    exact ⟨u, v, by omega, by omega, eu, ev⟩
  have key : ∀ n, n ≤ D → dl S x x n = false := fun n => by
    induction n with
    | zero => exact fun _ => rfl
    | succ n ih =>
      intro hn
      obtain ⟨-, -, -, u, v, hu, hv, huv, eu, ev⟩ := hS.1.2.2.2.2.2.1 n (by omega)
      show (dl S x x n || _) = false
      rw [ih (by omega), eu, ev]
      have ni : ∀ a : Nat, a < 6 → (nI a = nI x ↔ a = x) := fun a ha => nI_eq (by omega) (by omega)
      by_cases w1 : nI u = nI x
      · have := (ni u (by omega)).mp w1
        have w2 : ¬ nI v = nI x := fun e => huv (this.trans ((ni v (by omega)).mp e).symm)
        simp [w2]
      · simp [w1]
  rw [bit1_bt (by omega), bs_bt (R := R) (by omega) (by omega) hd, key D (Nat.le_refl _)]
  rfl
theorem cb_bd {can : Nat → Int32} {x : Nat} (hx : can x = 0) : ∀ {n : Nat}, x < n → cb can n ≤ n - 1
  | 0, h => absurd h (Nat.not_lt_zero _)
  | n + 1, h => by
    show cb can n + (if can n = 0 then 0 else 1) ≤ n + 1 - 1
    by_cases q : x = n
    · subst q; rw [if_pos hx]; have := cb_le can x; omega
    · have := cb_bd hx (show x < n by omega)
      split <;> omega
/-- rooms of one head: both rows grow alike -/
theorem go_in {h : Nat} (hS : SR c1 c8 st S R D H Q M L E K) (hC : SC c6 sc S R D H Q) (hA : AT c6 sc S R H (q0 S)) (hh : h < H) (hl : ¬ lv S h = 0) {N0 : Nat} (hN : N0 ≤ 5 * h) {z9 z12 : Cl} : ∀ (m j : Nat) (c9' c12' : Cl), j + m = R → Kp [1, 2, 3, 4] z9 c9' → Oth wa z9 c9' → cR c9' 0 wa = sc → Kp [29, 30, 31] z12 c12' → cA c12' 20 B2 = S → (∀ h, h < H → ¬ lv S h = 0 → cA c12' 24 B2 h = nI (q0 S h)) → GoR S R H c9' wa c12' B2 (N0 + cb (cx S H D (q0 S) h) j) → ∃ c9'' c12'', G_108 c1 c6 c8 wa st 1 [nI (lc S h), nI j] [] [] c9' = G_108 c1 c6 c8 wa st 0 [nI (lc S h + 1)] [] [] c9'' ∧ G_269 B2 1 [nI h, nI j] [] [] c12' = G_269 B2 0 [nI (h + 1)] [] [] c12'' ∧ Kp [1, 2, 3, 4] z9 c9'' ∧ Oth wa z9 c9'' ∧ cR c9'' 0 wa = sc ∧ Kp [29, 30, 31] z12 c12'' ∧ cA c12'' 20 B2 = S ∧ (∀ h, h < H → ¬ lv S h = 0 → cA c12'' 24 B2 h = nI (q0 S h)) ∧ GoR S R H c9'' wa c12'' B2 (N0 + cb (cx S H D (q0 S) h) R)
  | 0, j, c9', c12', hj, k9, o9, r9, k12, s12, p12, hG => by
    have : j = R := by omega
    subst this
    obtain ⟨⟨-, hR, r6⟩, -⟩ := hS.1.1
    refine ⟨c9', c12', ?_, ?_, k9, o9, r9, k12, s12, p12, hG⟩
    · conv => lhs; rw [G_108]
      rw [r9, hC.1, if_pos (nI_le (Nat.le_refl _) (by omega)), nI_1]
    · conv => lhs; rw [G_269]
      refine ob_e al_0 ?_
      rw [s12, hR, if_pos (nI_le (Nat.le_refl _) (by omega)), nI_1]
  | m + 1, j, c9', c12', hj, k9, o9, r9, k12, s12, p12, hG => by
    obtain ⟨⟨-, hR, r6⟩, ⟨-, hD, d10⟩, ⟨-, hH, h6⟩, -⟩ := hS.1.1
    have ll := lc_le S H
    have l1 := lc_lt hh hl
    have qr := q0_lt hS hh hl
    have n60 := f_60 (q := q0 S) (i := lc S h) (r := j) r6 h6 l1 (by omega) (by rw [nbf_lc hh hl]; exact qr) hC hA
    rw [nbf_lc hh hl] at n60
    have n260 := f_260 (q := q0 S) (c := c12') (B2 := B2) (h := h) (r := j) (H := H) (D := D) (by rw [s12]; exact hH) h6 (by rw [s12]; exact hD) d10 (by rw [s12]; exact p12) hh (by omega)
    rw [s12, if_neg hl] at n260
    have self0 : cx S H D (q0 S) h (q0 S h) = 0 := by unfold cx; rw [no_self hS qr, if_pos rfl]
    have cbR := cb_bd self0 qr
    have e1 : cb (cx S H D (q0 S) h) (j + 1) = cb (cx S H D (q0 S) h) j + (if cx S H D (q0 S) h j = 0 then 0 else 1) := rfl
    by_cases w : cx S H D (q0 S) h j = 0
    · rw [if_pos w, Nat.add_zero] at e1
      obtain ⟨c9'', c12'', g1, g2, g3⟩ := go_in hS hC hA hh hl hN m (j + 1) c9' c12' (by omega) k9 o9 r9 k12 s12 p12 (by rw [e1]; exact hG)
      refine ⟨c9'', c12'', ?_, ?_, g3⟩
      · rw [← g1]
        conv => lhs; rw [G_108]
        rw [r9, hC.1, if_neg (nI_ge (by omega) (by omega)), n60]
        refine ob_e rfl (ob_e (in_pos w rfl) ?_)
        rw [nI_1]
      · rw [← g2]
        conv => lhs; rw [G_269]
        refine ob_e al_0 ?_
        rw [s12, hR, if_neg (nI_ge (by omega) (by omega)), n260]
        refine ob_e rfl (ob_e (in_pos w rfl) ?_)
        rw [nI_1]
    · rw [if_neg w] at e1
      have mono := cb_mono (cx S H D (q0 S) h) (show j + 1 ≤ R by omega)
      obtain ⟨a1, a2, a3⟩ := hG
      have nN : N0 + cb (cx S H D (q0 S) h) j < 30 := by omega
      have jq : j ≠ q0 S h := fun e => w (e ▸ self0)
      obtain ⟨N, eN⟩ : ∃ N, N = N0 + cb (cx S H D (q0 S) h) j := ⟨_, rfl⟩
      rw [← eN] at a1 a2 a3 nN
      have e10 : ald (cA c6 10 sc) 6 (nI (lc S h)) = some (nI (q0 S h)) := (ald_ok (by omega) (by decide)).trans (by rw [hA.1 _ l1, nbf_lc hh hl])
      have e5 : ald (cA c6 5 sc) 6 (nI (lc S h)) = some (S (40 + 6 * h + 1)) := (ald_ok (by omega) (by decide)).trans (by rw [(hC.2.2.2.1 _ l1).2.1, nbf_lc hh hl])
      obtain ⟨t9, ht9⟩ : ∃ t9, t9 = sI (sA (sA (sA c9' 2 wa (upd (cA c9' 2 wa) N (nI (q0 S h)))) 3 wa (upd (cA c9' 3 wa) N (nI j))) 4 wa (upd (cA c9' 4 wa) N (S (40 + 6 * h + 1)))) 1 wa (nI (N + 1)) := ⟨_, rfl⟩
      obtain ⟨t12, ht12⟩ : ∃ t12, t12 = sI (sA (sA c12' 29 B2 (upd (cA c12' 29 B2) N (nI h))) 30 B2 (upd (cA c12' 30 B2) N (nI j))) 31 B2 (nI (N + 1)) := ⟨_, rfl⟩
      have kt9 : Kp [1, 2, 3, 4] c9' t9 := by rw [ht9]; exact kp_tr (kp_A (by decide)) (kp_tr (kp_A (by decide)) (kp_tr (kp_A (by decide)) (kp_I (by decide))))
      have ot9 : Oth wa c9' t9 := by rw [ht9]; exact oth_tr oth_A (oth_tr oth_A (oth_tr oth_A oth_I))
      have kt12 : Kp [29, 30, 31] c12' t12 := by rw [ht12]; exact kp_tr (kp_A (by decide)) (kp_tr (kp_A (by decide)) (kp_I (by decide)))
      have g9 : cI t9 1 wa = nI (N + 1) ∧ cA t9 2 wa = upd (cA c9' 2 wa) N (nI (q0 S h)) ∧ cA t9 3 wa = upd (cA c9' 3 wa) N (nI j) ∧ cA t9 4 wa = upd (cA c9' 4 wa) N (S (40 + 6 * h + 1)) := by
        rw [ht9]; simp only [cI_sI, cI_sJ, cI_sR, cI_sA, cI_sB, cI_sQ, cR_sI, cR_sJ, cR_sR, cR_sA, cR_sB, cR_sQ, cA_sI, cA_sJ, cA_sR, cA_sA, cA_sB, cA_sQ, Nat.reduceEqDiff, false_and, and_false, and_true, true_and, if_false, if_true, and_self, ↓reduceIte]
      have g12 : cI t12 31 B2 = nI (N + 1) ∧ cA t12 29 B2 = upd (cA c12' 29 B2) N (nI h) ∧ cA t12 30 B2 = upd (cA c12' 30 B2) N (nI j) := by
        rw [ht12]; simp only [cI_sI, cI_sJ, cI_sR, cI_sA, cI_sB, cI_sQ, cR_sI, cR_sJ, cR_sR, cR_sA, cR_sB, cR_sQ, cA_sI, cA_sJ, cA_sR, cA_sA, cA_sB, cA_sQ, Nat.reduceEqDiff, false_and, and_false, and_true, true_and, if_false, if_true, and_self, ↓reduceIte]
      obtain ⟨c9'', c12'', g1, g2, g3⟩ := go_in hS hC hA hh hl hN m (j + 1) t9 t12 (by omega) (kp_tr k9 kt9) (oth_tr o9 ot9) (by rw [(kt9 0 (by decide)).2.2.1]; exact r9) (kp_tr k12 kt12) (by rw [(kt12 20 (by decide)).2.2.2.1]; exact s12) (by rw [(kt12 24 (by decide)).2.2.2.1]; exact p12) (by
        rw [e1, ← Nat.add_assoc, ← eN]
        refine ⟨g9.1, g12.1, fun k hk => ?_⟩
        by_cases u : k = N
        · subst u
          refine ⟨h, j, hh, hl, by omega, qr, jq, ?_, ?_, ?_, ?_, ?_⟩
          · rw [g12.2.1, pk_us]
          · rw [g12.2.2, pk_us]
          · rw [g9.2.1, pk_us]
          · rw [g9.2.2.1, pk_us]
          · rw [g9.2.2.2, pk_us]
        · obtain ⟨h', r', b1, b2, b3, b4, b5, b6, b7, b8, b9, b10⟩ := a3 k (by omega)
          refine ⟨h', r', b1, b2, b3, b4, b5, ?_, ?_, ?_, ?_, ?_⟩
          · rw [g12.2.1, pk_un u]; exact b6
          · rw [g12.2.2, pk_un u]; exact b7
          · rw [g9.2.1, pk_un u]; exact b8
          · rw [g9.2.2.1, pk_un u]; exact b9
          · rw [g9.2.2.2, pk_un u]; exact b10)
      refine ⟨c9'', c12'', ?_, ?_, g3⟩
      · rw [← g1]
        conv => lhs; rw [G_108]
        rw [r9, hC.1, if_neg (nI_ge (by omega) (by omega)), n60]
        refine ob_e rfl (ob_e (v := t9) (in_neg w ?_) ?_)
        · refine ob_mk e10 ?_
          rw [a1]
          refine ob_mk (ast_ok (by omega) (by decide)) ?_
          rw [cI_sA, a1]
          refine ob_mk (ast_ok (by omega) (by decide)) ?_
          rw [show cR (sA (sA c9' 2 wa (upd (cA c9' 2 wa) N (nI (q0 S h)))) 3 wa (upd (cA (sA c9' 2 wa (upd (cA c9' 2 wa) N (nI (q0 S h)))) 3 wa) N (nI j))) 0 wa = sc from r9]
          refine ob_mk e5 ?_
          rw [cI_sA, cI_sA, a1]
          refine ob_mk (ast_ok (by omega) (by decide)) ?_
          rw [cI_sA, cI_sA, cI_sA, a1, nI_1, ht9, cA_ne (show 3 ≠ 2 by decide), cA_ne (show 4 ≠ 3 by decide), cA_ne (show 4 ≠ 2 by decide)]
          rfl
        · rw [nI_1]
      · rw [← g2]
        conv => lhs; rw [G_269]
        refine ob_e al_0 ?_
        rw [s12, hR, if_neg (nI_ge (by omega) (by omega)), n260]
        refine ob_e rfl (ob_e (v := t12) (in_neg w ?_) ?_)
        · rw [a2]
          refine ob_mk (ast_ok nN (by decide)) ?_
          rw [cI_sA, a2]
          refine ob_mk (ast_ok nN (by decide)) ?_
          rw [cI_sA, cI_sA, a2, nI_1, ht12, cA_ne (show 30 ≠ 29 by decide)]
          rfl
        · rw [nI_1]
/-- a head that is dead adds none -/
theorem go_dead {h : Nat} {c : Cl} (hR : cA c 20 B2 0 = nI R) (r6 : R ≤ 6) (hh : h < 6) (hl : lv (cA c 20 B2) h = 0) : ∀ m j, j + m = R → G_269 B2 1 [nI h, nI j] [] [] c = G_269 B2 0 [nI (h + 1)] [] [] c
  | 0, j, hj => by
    have : j = R := by omega
    subst this
    conv => lhs; rw [G_269]
    refine ob_e al_0 ?_
    rw [hR, if_pos (nI_le (Nat.le_refl _) (by omega)), nI_1]
  | m + 1, j, hj => by
    rw [← go_dead hR r6 hh hl m (j + 1) (by omega)]
    conv => lhs; rw [G_269]
    refine ob_e al_0 ?_
    rw [hR, if_neg (nI_ge (by omega) (by omega))]
    refine ob_e (v := 0) ?_ (ob_e (in_pos rfl rfl) ?_)
    · unfold F_260
      exact ob_mk (f_224 hh) (ob_mk (in_pos hl rfl) rfl)
    · rw [nI_1]
theorem go_all (hS : SR c1 c8 st S R D H Q M L E K) (hC : SC c6 sc S R D H Q) (hA : AT c6 sc S R H (q0 S)) {z9 z12 : Cl} : ∀ (m h : Nat) (c9' c12' : Cl) (N : Nat), h + m = H → N ≤ 5 * h → Kp [1, 2, 3, 4] z9 c9' → Oth wa z9 c9' → cR c9' 0 wa = sc → Kp [29, 30, 31] z12 c12' → cA c12' 20 B2 = S → (∀ h, h < H → ¬ lv S h = 0 → cA c12' 24 B2 h = nI (q0 S h)) → GoR S R H c9' wa c12' B2 N → ∃ c9'' c12'' N', G_108 c1 c6 c8 wa st 0 [nI (lc S h)] [] [] c9' = some (c6, c9'') ∧ G_269 B2 0 [nI h] [] [] c12' = some c12'' ∧ N' ≤ 30 ∧ Kp [1, 2, 3, 4] z9 c9'' ∧ Oth wa z9 c9'' ∧ Kp [29, 30, 31] z12 c12'' ∧ GoR S R H c9'' wa c12'' B2 N'
  | 0, h, c9', c12', N, hi, hN, k9, o9, r9, k12, s12, p12, hG => by
    have : h = H := by omega
    subst this
    have ll := lc_le S h
    obtain ⟨-, -, ⟨-, hH, h6⟩, -⟩ := hS.1.1
    refine ⟨c9', c12', N, ?_, ?_, by omega, k9, o9, k12, hG⟩
    · rw [G_108]
      rw [r9, hC.2.1]
      exact in_pos (nI_le (Nat.le_refl _) (by omega)) rfl
    · rw [G_269]
      exact ob_mk al_2 (in_pos (by rw [s12, hH]; exact nI_le (Nat.le_refl _) (by omega)) rfl)
  | m + 1, h, c9', c12', N, hi, hN, k9, o9, r9, k12, s12, p12, hG => by
    have ll := lc_le S H
    obtain ⟨⟨-, hR, r6⟩, -, ⟨-, hH, h6⟩, -⟩ := id hS.1.1
    by_cases q : lv S h = 0
    · obtain ⟨c9'', c12'', N', g1, g2, g3⟩ := go_all hS hC hA m (h + 1) c9' c12' N (by omega) (by omega) k9 o9 r9 k12 s12 p12 hG
      rw [lc_d q] at g1
      refine ⟨c9'', c12'', N', g1, ?_, g3⟩
      have := go_dead (c := c12') (B2 := B2) (h := h) (R := R) (by rw [s12]; exact hR) r6 (by omega) (by rw [s12]; exact q) R 0 (by omega)
      rw [G_269]
      exact ob_mk al_2 (in_neg (by rw [s12, hH]; exact nI_ge (by omega) (by omega)) (this.trans g2))
    · have l1 := lc_lt (show h < H by omega) q
      obtain ⟨c9a, c12a, f1, f2, f3, f4, f5, f6, f7, f8, f9⟩ := go_in hS hC hA (show h < H by omega) q hN R 0 c9' c12' (by omega) k9 o9 r9 k12 s12 p12 hG
      have qr := q0_lt hS (show h < H by omega) q
      have self0 : cx S H D (q0 S) h (q0 S h) = 0 := by unfold cx; rw [no_self hS qr, if_pos rfl]
      have cbR := cb_bd self0 qr
      obtain ⟨c9'', c12'', N', g1, g2, g3⟩ := go_all hS hC hA m (h + 1) c9a c12a (N + cb (cx S H D (q0 S) h) R) (by omega) (by omega) f3 f4 f5 f6 f7 f8 f9
      rw [lc_s q] at g1
      refine ⟨c9'', c12'', N', ?_, ?_, g3⟩
      · rw [G_108]
        rw [r9, hC.2.1]
        exact in_neg (nI_ge (by omega) (by omega)) (f1.trans g1)
      · rw [G_269]
        exact ob_mk al_2 (in_neg (by rw [s12, hH]; exact nI_ge (by omega) (by omega)) (f2.trans g2))
/-- goings of now, both -/
theorem list_ok (hS : SR c1 c8 st (cA c12 20 B2) R D H Q M L E K) (hP : Pw c12 B2) : ∃ c6' c9' c12' N, F_108 c1 c6 c8 c9 wa st = some (c6', c9') ∧ F_269 c12 B2 = some c12' ∧ N ≤ 30 ∧ Kp [0, 1, 2, 3, 4, 5, 6, 7, 8, 9, 10, 11] c6 c6' ∧ Oth (cR c9 0 wa) c6 c6' ∧ SC c6' (cR c9 0 wa) (cA c12 20 B2) R D H Q ∧ Kp [1, 2, 3, 4] c9 c9' ∧ Oth wa c9 c9' ∧ Kp [24, 29, 30, 31] c12 c12' ∧ GoR (cA c12 20 B2) R H c9' wa c12' B2 N := by
  obtain ⟨⟨-, hR, r6⟩, -, ⟨-, hH, h6⟩, -⟩ := id hS.1.1
  obtain ⟨c6', t1, t2, t3, t4, t5, t6⟩ := take_ok (c6 := c6) (sc := cR c9 0 wa) hS
  have qb : ∀ h, h < 6 → qx (cA c12 20 B2) H (q0 (cA c12 20 B2)) h < 6 := fun h hh => by
    unfold qx
    split
    · split
      · decide
      · rename_i a b; have := q0_lt hS a b; omega
    · decide
  obtain ⟨c2, u1, u2, u3⟩ := f_255 (q := qx (cA c12 20 B2) H (q0 (cA c12 20 B2))) qb hP
  obtain ⟨c9'', c12'', N', g1, g2, g3, g4, g5, g6, g7⟩ := go_all (wa := wa) (B2 := B2) hS t4 t5 (z9 := sI c9 1 wa 0) (z12 := sI c2 31 B2 0) H 0 (sI c9 1 wa 0) (sI c2 31 B2 0) 0 (by omega) (Nat.zero_le _) (kp_rf _ _) (oth_rf _ _) rfl (kp_rf _ _) (by rw [cA_sI, (u2 20 (by decide)).2.2.2.1]) (fun h hh hl => by
    rw [cA_sI, u3 h (by omega)]; unfold qx; rw [if_pos hh, if_neg hl]) ⟨cI_same _ _ _ _, cI_same _ _ _ _, fun k hk => absurd hk (Nat.not_lt_zero _)⟩
  refine ⟨c6', c9'', c12'', N', ?_, ?_, g3, t2, t3, t4, kp_tr (kp_I (by decide)) g4, oth_tr oth_I g5, kp_tr (kp_wd u2 (by decide)) (kp_tr (kp_I (by decide)) (kp_wd g6 (by decide))), g7⟩
  · unfold F_108
    exact ob_mk t1 (ob_mk rfl g1)
  · unfold F_269
    exact ob_mk (f_256 hS hP) (ob_mk u1 (ob_mk rfl g2))
end Known
