/-! ===== a world: a minute, one taken back ===== -/
section World2
variable {c1 c8 c10 : Cl} {w : Nat} {A : Nat → Nat} {S S' W : Nat → Int32} {U : Nat} {x : Int32} {X R D H Q L : Nat} {K : Nat → Nat}
theorem md_ne {o i j : Nat} (hi : i < 20) (hj : j < 20) (h : (o + i) % 20 = (o + j) % 20) : i = j := by omega
theorem pm_ok {M : Nat} {p1 p2 p3 : Int32} (inj : ∀ i j, i ≤ 20 → j ≤ 20 → A i = A j → i = j) (h : WR c1 c8 c10 w A S W U x X R D H Q L K) (h4 : S 4 = nI M) (hM : M + 1 ≤ 9999) (hS' : ∀ j, 184 ≤ j → S' j = S j) (hp : ∀ c8' E, SR c1 c8' (A 0) S R D H Q M L E K → Rn (F_92 c1 c8' (A 0) p1 p2 p3) (fun c'' => Oth (A 0) c8' c'' ∧ cR c'' 0 (A 0) = cR c8' 0 (A 0) ∧ ∃ E', SR c1 c'' (A 0) S' R D H Q (M + 1) L E' K)) : Rn (F_119 c1 c8 c10 w p1 p2 p3) (fun r => WR c1 r.1 r.2 w A S' (kmW W U S) (kmU U) x X R D H Q L K ∧ (∀ a, (∀ i, i ≤ 20 → a ≠ A i) → Sm8 c8 a r.1 a) ∧ Oth w c10 r.2) := by
  obtain ⟨a1, a2, a3, ⟨M0, E, m9, s⟩, ⟨o, o20, b1, b2, b3, b4⟩, a4, N, n12, t1, t2, t3⟩ := h
  have eM : M0 = M := (nI_eq (by omega) (by omega)).mp (s.1.1.2.2.2.2.2.1.symm.trans h4)
  subst eM
  have u20 := Nat.mod_lt (o + U) (show 0 < 20 by decide)
  unfold F_119
  rw [b1, b2, a1, nI_add]
  refine rn_e (irm_ok (x := o + U) (y := 20) (by omega) (by decide) (by decide)) (rn_e (ldq_ok u20 (by decide)) ?_)
  rw [a2 _ u20]
  have nz : ∀ j, j ≤ 20 → j ≠ 0 → A 0 ≠ A j := fun j q z e => z (inj 0 j (by decide) q e).symm
  refine rn_e rfl (rn_b (f_82 (nz (1 + (o + U) % 20) (by omega) (by omega))) (fun c' ⟨c'S, c'O⟩ => ?_))
  have s0 : SR c1 c' (A 0) S R D H Q M0 L E K := SR_c (oth_sm c'O (nz _ (by omega) (by omega))) (Sm1.rf _ _) (fun _ _ => rfl) s
  refine rn_b (P := fun t => Oth w c10 t ∧ Kp [2, 3] c10 t ∧ cI t 3 w = nI (kmU U) ∧ cI t 2 w = nI (if U < 20 then o else (o + 1) % 20)) ?_ ?_
  · by_cases q : U < 20
    · refine rn_n (show ¬ (20 : Int32) ≤ nI U from nI_ge (a := U) (b := 20) q (by decide)) (rn_s (rn_r ⟨oth_I, kp_I (by decide), ?_, ?_⟩))
      · rw [cI_same, nI_1]; unfold kmU; rw [if_pos q]
      · rw [cI_sI, if_neg (fun z => by omega), b1, if_pos q]
    · refine rn_p (show (20 : Int32) ≤ nI U from nI_le (a := 20) (b := U) (by omega) (by omega)) ?_
      rw [nI_1]
      refine rn_e (irm_ok (x := o + 1) (y := 20) (by omega) (by decide) (by decide)) (rn_s (rn_r ⟨oth_I, kp_I (by decide), ?_, ?_⟩))
      · rw [cI_sI, if_neg (fun z => by omega), b2]; unfold kmU; rw [if_neg q, show U = 20 by omega]
      · rw [cI_same, if_neg q]
  · intro t ⟨tO, tK, t3', t2'⟩
    have e1 : cR t 0 w = A 0 := by rw [(tK 0 (by decide)).2.2.1]; exact a1
    rw [e1]
    refine rn_b (hp c' E s0) (fun c'' ⟨oO, oR, E', oS⟩ => rn_r ⟨?_, ?_, tO⟩)
    · dsimp only
      have sm : ∀ i, i ≤ 20 → i ≠ 0 → i ≠ 1 + (o + U) % 20 → Sm8 c8 (A i) c'' (A i) := fun i q z1 z2 => by
        have y1 := oth_sm c'O (fun e : A i = A (1 + (o + U) % 20) => z2 (inj _ _ q (by omega) e))
        have y2 := oth_sm oO (fun e : A i = A 0 => z1 (inj _ _ q (by omega) e))
        obtain ⟨f0, f1, f2, f3, f4, f5⟩ := y1
        obtain ⟨g0, g1, g2, g3, g4, g5⟩ := y2
        exact ⟨g0.trans f0, g1.trans f1, g2.trans f2, g3.trans f3, fun k j a b c => (g4 k j a b c).trans (f4 k j a b c), fun j a => (g5 j a).trans (f5 j a)⟩
      have sn : Sm8 c8 (A 0) c'' (A (1 + (o + U) % 20)) := by
        have y2 := oth_sm oO (fun e : A (1 + (o + U) % 20) = A 0 => by have := inj _ _ (by omega) (by omega) e; omega)
        obtain ⟨f0, f1, f2, f3, f4, f5⟩ := c'S
        obtain ⟨g0, g1, g2, g3, g4, g5⟩ := y2
        exact ⟨g0.trans f0, g1.trans f1, g2.trans f2, g3.trans f3, fun k j a b c => (g4 k j a b c).trans (f4 k j a b c), fun j a => (g5 j a).trans (f5 j a)⟩
      refine ⟨e1, fun j q => by rw [(tK 1 (by decide)).2.2.2.2.2]; exact a2 j q, fun i q => ?_, ⟨M0 + 1, E', hM, oS⟩, ⟨if U < 20 then o else (o + 1) % 20, ?_, t2', t3', ?_, fun i q => ?_⟩, by rw [(tK 4 (by decide)).1]; exact a4, N, n12, by rw [(tK 5 (by decide)).1]; exact t1, by rw [hS' 220 (by decide)]; exact t2, fun i q => ?_⟩
      · by_cases z1 : i = 0
        · subst z1
          rw [oR, (oth_sm c'O (nz _ (by omega) (by omega))).1]
          exact a3 0 (by decide)
        · by_cases z2 : i = 1 + (o + U) % 20
          · subst z2; rw [sn.1]; exact a3 0 (by decide)
          · rw [(sm i q z1 z2).1]; exact a3 i q
      · split
        · exact o20
        · exact Nat.mod_lt _ (by decide)
      · unfold kmU; split <;> omega
      · by_cases u : U < 20
        · rw [if_pos u]
          unfold kmU at q
          rw [if_pos u] at q
          have ew : kmW W U S = pt W (184 * U) S 184 := by unfold kmW; rw [if_pos u]
          by_cases v : i = U
          · subst v
            refine ⟨M0, E, by omega, SR_c sn (Sm1.rf _ _) (fun j z => ?_) s⟩
            rw [ew]; unfold pt; rw [if_pos ⟨by omega, by omega⟩, Nat.add_sub_cancel_left]
          · obtain ⟨M1, E1, m91, s1⟩ := b4 i (by omega)
            have := Nat.mod_lt (o + i) (show 0 < 20 by decide)
            refine ⟨M1, E1, m91, SR_c (sm _ (by omega) (by omega) (fun e => v (md_ne (o := o) (by omega) u (by omega)))) (Sm1.rf _ _) (fun j z => ?_) s1⟩
            rw [ew]; unfold pt; rw [if_neg (fun z => by omega)]
        · have eU : U = 20 := by omega
          subst eU
          rw [if_neg u]
          have ku : kmU 20 = 20 := rfl
          rw [ku] at q
          have ew : kmW W 20 S = pt (sh W 3680) (184 * 19) S 184 := by unfold kmW; rw [if_neg u]
          by_cases v : i = 19
          · subst v
            have e : ((o + 1) % 20 + 19) % 20 = (o + 20) % 20 := by omega
            rw [e]
            refine ⟨M0, E, by omega, SR_c sn (Sm1.rf _ _) (fun j z => ?_) s⟩
            rw [ew]; unfold pt; rw [if_pos ⟨by omega, by omega⟩, Nat.add_sub_cancel_left]
          · have e : ((o + 1) % 20 + i) % 20 = (o + (i + 1)) % 20 := by omega
            rw [e]
            obtain ⟨M1, E1, m91, s1⟩ := b4 (i + 1) (by omega)
            have := Nat.mod_lt (o + (i + 1)) (show 0 < 20 by decide)
            refine ⟨M1, E1, m91, SR_c (sm _ (by omega) (by omega) (fun e => by omega)) (Sm1.rf _ _) (fun j z => ?_) s1⟩
            rw [ew]; unfold pt sh; rw [if_neg (fun z => by omega), if_pos (by omega), show 184 * i + j + 184 = 184 * (i + 1) + j by omega]
      · rw [(tK 6 (by decide)).2.2.2.1, (tK 7 (by decide)).2.2.2.1, (tK 8 (by decide)).2.2.2.1, hS' _ (show 184 ≤ 184 + 3 * i by omega), hS' _ (show 184 ≤ 184 + 3 * i + 1 by omega), hS' _ (show 184 ≤ 184 + 3 * i + 2 by omega)]
        exact t3 i q
    · intro a ha
      have y1 := oth_sm c'O (fun e : a = A (1 + (o + U) % 20) => ha _ (by omega) e)
      have y2 := oth_sm oO (fun e : a = A 0 => ha _ (by omega) e)
      obtain ⟨f0, f1, f2, f3, f4, f5⟩ := y1
      obtain ⟨g0, g1, g2, g3, g4, g5⟩ := y2
      exact ⟨g0.trans f0, g1.trans f1, g2.trans f2, g3.trans f3, fun k j a b c => (g4 k j a b c).trans (f4 k j a b c), fun j a => (g5 j a).trans (f5 j a)⟩
/-- one taken back -/
theorem tb_ok (inj : ∀ i j, i ≤ 20 → j ≤ 20 → A i = A j → i = j) (h : WR c1 c8 c10 w A S W (U + 1) x X R D H Q L K) : Rn (F_120 c8 c10 w) (fun r => WR c1 r.1 r.2 w A (pt S 0 (fun k => W (184 * U + k)) 184) W U x X R D H Q L K ∧ Oth (A 0) c8 r.1 ∧ Oth w c10 r.2) := by
  obtain ⟨a1, a2, a3, ⟨M0, E, m9, s⟩, ⟨o, o20, b1, b2, b3, b4⟩, a4, N, n12, t1, t2, t3⟩ := h
  have u20 := Nat.mod_lt (o + U) (show 0 < 20 by decide)
  unfold F_120
  rw [b2]
  refine rn_b (P := fun t => WR c1 t.1 t.2 w A (pt S 0 (fun k => W (184 * U + k)) 184) W U x X R D H Q L K ∧ Oth (A 0) c8 t.1 ∧ Oth w c10 t.2) (rn_n (nI_nle (by omega) (by omega)) (rn_s ?_)) (fun t ht => rn_r ht)
  have e2 : cI (sI c10 3 w (nI (U + 1) - 1)) 2 w = nI o := by rw [cI_sI, if_neg (fun z => by omega)]; exact b1
  rw [e2, cI_same, show nI (U + 1) - 1 = nI U from nI_pred U, nI_add]
  refine rn_e (irm_ok (x := o + U) (y := 20) (by omega) (by decide) (by decide)) (rn_e (ldq_ok u20 (by decide)) ?_)
  rw [show cQ (sI c10 3 w (nI U)) 1 w = cQ c10 1 w from rfl, a2 _ u20, show cR (sI c10 3 w (nI U)) 0 w = cR c10 0 w from rfl, a1]
  have nn : A (1 + (o + U) % 20) ≠ A 0 := fun e => by have := inj _ _ (by omega) (by omega) e; omega
  refine rn_e rfl (rn_b (f_82 nn) (fun c' ⟨c'S, c'O⟩ => rn_r ⟨?_, c'O, oth_I⟩))
  dsimp only
  obtain ⟨M1, E1, m91, s1⟩ := b4 U (by omega)
  have sm : ∀ i, i ≤ 20 → i ≠ 0 → Sm8 c8 (A i) c' (A i) := fun i q z1 => oth_sm c'O (fun e : A i = A 0 => z1 (inj _ _ q (by omega) e))
  have ph : ∀ j, 184 ≤ j → pt S 0 (fun k => W (184 * U + k)) 184 j = S j := fun j q => by unfold pt; rw [if_neg (fun z => by omega)]
  refine ⟨a1, a2, fun i q => ?_, ⟨M1, E1, m91, SR_c c'S (Sm1.rf _ _) (fun j z => ?_) s1⟩, ⟨o, o20, e2, cI_same _ _ _ _, by omega, fun i q => ?_⟩, ?_, N, n12, ?_, by rw [ph 220 (by decide)]; exact t2, fun i q => ?_⟩
  · by_cases z1 : i = 0
    · subst z1; rw [c'S.1]; exact a3 _ (by omega)
    · rw [(sm i q z1).1]; exact a3 i q
  · unfold pt; rw [if_pos ⟨by omega, by omega⟩, Nat.sub_zero]
  · obtain ⟨M2, E2, m92, s2⟩ := b4 i (by omega)
    have := Nat.mod_lt (o + i) (show 0 < 20 by decide)
    exact ⟨M2, E2, m92, SR_c (sm _ (by omega) (by omega)) (Sm1.rf _ _) (fun j z => rfl) s2⟩
  · rw [cI_sI, if_neg (fun z => by omega)]; exact a4
  · rw [cI_sI, if_neg (fun z => by omega)]; exact t1
  · rw [cA_sI, ph _ (show 184 ≤ 184 + 3 * i by omega), ph _ (show 184 ≤ 184 + 3 * i + 1 by omega), ph _ (show 184 ≤ 184 + 3 * i + 2 by omega)]
    exact t3 i q
end World2
