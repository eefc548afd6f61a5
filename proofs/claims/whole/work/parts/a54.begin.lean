/-! ===== the invariant at the start; the pure part whole ===== -/
def pK (B B2 X : Nat) : Nat → Nat
  | 0 => B
  | 1 => B2
  | 2 => X + 1
  | 3 => X + 5
  | 4 => X + 6
  | 7 => X + 11
  | 9 => X + 257
  | 11 => X + 268
  | 12 => X + 281
  | 13 => X + 284
  | 14 => X + 285
  | _ => 0
theorem pot_le (Z : Nat) : pot Z ≤ 164414 := by
  have e : sn (fun r => sn (fun h => 2 * r ^ h) 7) 7 = 164414 := by decide +kernel
  rw [← e]
  refine sn_le fun r _ => sn_le fun h _ => ?_
  split
  · exact Nat.le_refl _
  · exact Nat.zero_le _
theorem zat_z (a : Nat) : (∀ k, cI (zat zcl a) k a = 0) ∧ (∀ k, cA (zat zcl a) k a = fun _ => 0) ∧ (∀ k, cQ (zat zcl a) k a = fun _ => none) := ⟨fun _ => if_pos rfl, fun _ => if_pos rfl, fun _ => if_pos rfl⟩
/-- the first world -/
theorem first_w {X X1 : Nat} {c1 c8 c10 c12 : Cl} {B2 g : Nat} {F : Nat → Int32} (h1 : c1 = nC_1 zcl (X + 12)) (h8 : c8 = nC_8 (wS (nC_8 zcl (X + 21 + 4) (X + 12)) (X + 21 + 15) (X + 12) 20) (X + 257) g) (h10 : c10 = wQ (sR (zat zcl (X + 11)) 0 (X + 11) (X + 21 + 4)) (X + 11) (X + 21 + 15) 20) (h12 : c12 = sA (zat zcl B2) 25 B2 F) (hX : X + 12 < X1) : WM c1 c8 c10 c12 B2 (X + 11) (nA (X + 20)) X1 0 0 0 0 3 (fun _ => 0) := by
  obtain ⟨q1, q2, q3⟩ := wQ_o (c10 := sR (zat zcl (X + 11)) 0 (X + 11) (X + 21 + 4)) (a0 := X + 11) (B := X + 21 + 15) 20
  rw [← h10] at q2 q3
  have z10 : ∀ k, k ≠ 0 → cI (sR (zat zcl (X + 11)) 0 (X + 11) (X + 21 + 4)) k (X + 11) = 0 := fun k _ => (zat_z (X + 11)).1 k
  have z12 : ∀ k, k ≠ 25 → cA c12 k B2 = fun _ => 0 := fun k hk => by rw [h12, cA_ne hk]; exact (zat_z B2).2.1 k
  have i12 : ∀ k, cI c12 k B2 = 0 := fun k => by rw [h12, cI_sA]; exact (zat_z B2).1 k
  have nai : ∀ i, nA (X + 20) (1 + i) = X + 21 + 15 + 11 * i := fun i => by unfold nA; rw [if_neg (by omega), show 1 + i - 1 = i by omega]
  have na0 : nA (X + 20) 0 = X + 21 + 4 := rfl
  have o8 : Oth (X + 257) (wS (nC_8 zcl (X + 21 + 4) (X + 12)) (X + 21 + 15) (X + 12) 20) c8 := by rw [h8]; exact nC8_o _ _ _
  obtain ⟨s1, s2⟩ := wS_o (c8 := nC_8 zcl (X + 21 + 4) (X + 12)) (B := X + 21 + 15) (a1 := X + 12) 20 (X + 21 + 4) (fun i hi => by omega)
  have t1 := Sm8.tr s1 (oth_sm o8 (show X + 21 + 4 ≠ X + 257 by omega))
  have r0 : cR c8 0 (X + 21 + 4) = X + 12 := by
    rw [(o8 0 (X + 21 + 4) (by omega)).2.2.1, s2]
    show cR (sR (zat zcl (X + 21 + 4)) 0 (X + 21 + 4) (X + 12)) 0 (X + 21 + 4) = X + 12
    rw [cR_sR, if_pos ⟨rfl, rfl⟩]
  have j0 : ∀ k, cI (nC_8 zcl (X + 21 + 4) (X + 12)) k (X + 21 + 4) = 0 := fun k => (zat_z (X + 21 + 4)).1 k
  have k1 : cI c8 1 (X + 21 + 4) = 0 := t1.2.1.trans (j0 1)
  have k3 : cI c8 3 (X + 21 + 4) = 0 := t1.2.2.2.1.trans (j0 3)
  have n1 : ∀ k, k ≠ 4 → cI c1 k (X + 12) = 0 := fun k hk => by
    rw [h1]; unfold nC_1
    rw [cI_sA, cI_sI, if_neg (fun z => hk z.1)]; exact (zat_z (X + 12)).1 k
  have n4 : cI c1 4 (X + 12) = 3 := by rw [h1]; unfold nC_1; rw [cI_sA, cI_sI, if_pos ⟨rfl, rfl⟩]
  have S0 := z12 20 (by decide)
  refine ⟨0, i12 23, ?_, fun j hj => ?_, fun i hi => ?_, ⟨0, 0, by decide, ?_⟩, ⟨0, by decide, ?_, ?_, by decide, fun i hi => absurd hi (Nat.not_lt_zero _)⟩, ⟨?_, by rw [i12 21]; decide⟩, 0, by decide, ?_, by rw [S0]; rfl, fun i hi => absurd hi (Nat.not_lt_zero _)⟩
  · rw [(q2 0 (by decide)).2.2.1, cR_sR, if_pos ⟨rfl, rfl⟩]; rfl
  · rw [q3 j hj, nai]
  · cases i with
    | zero => rw [na0, r0]; exact hX
    | succ i =>
      rw [Nat.add_comm i 1, nai, (o8 0 (X + 21 + 15 + 11 * i) (by omega)).2.2.1, wS_r 20 i (by omega)]; exact hX
  · rw [na0, S0]
    refine ⟨⟨⟨⟨by rw [r0]; exact n1 0 (by decide), rfl, by decide⟩, ⟨by rw [r0]; exact n1 1 (by decide), rfl, by decide⟩, ⟨by rw [r0]; exact n1 2 (by decide), rfl, by decide⟩, ⟨by rw [r0]; exact n1 3 (by decide), rfl, by decide⟩, k1, rfl, by decide⟩, fun h hh => absurd hh (Nat.not_lt_zero _), fun h hh => absurd hh (Nat.not_lt_zero _), fun h hh => absurd hh (Nat.not_lt_zero _), fun h hh => absurd hh (Nat.not_lt_zero _), fun h hh => absurd hh (Nat.not_lt_zero _), ⟨k3, by decide, fun j hj => absurd hj (Nat.not_lt_zero _), fun f => ?_⟩, ⟨⟨by rw [r0]; exact n4, by decide, fun z => absurd z (Nat.not_lt_zero _)⟩, fun h hh => absurd hh (Nat.not_lt_zero _), fun h hh => absurd hh (Nat.not_lt_zero _), fun h hh => absurd hh (Nat.not_lt_zero _), rfl⟩, fun h hh => absurd hh (Nat.not_lt_zero _), fun h hh => absurd hh (Nat.not_lt_zero _)⟩, fun h hh => absurd hh (Nat.not_lt_zero _), fun t r _ _ hr => absurd hr (Nat.not_lt_zero _)⟩
    have : su (ef (fun _ => 0) f) 6 = su (fun _ => 0) 6 := su_congr fun e _ => by unfold ef; exact if_pos (show (0 : Int32) ≤ 0 by decide)
    rw [this]; rfl
  · rw [(q2 2 (by decide)).1]; exact z10 2 (by decide)
  · rw [(q2 3 (by decide)).1]; exact z10 3 (by decide)
  · rw [(q2 4 (by decide)).1, i12 21]; exact z10 4 (by decide)
  · rw [(q2 5 (by decide)).1]; exact z10 5 (by decide)
set_option maxRecDepth 100000 in
theorem rm_end {a b n : Nat} (h : a ≤ b + 260 * n) (hn : n ≤ 512) : a ≤ b + 133120 := by omega
set_option maxRecDepth 100000 in
theorem sl_end {a b n z z' : Nat} (h : a ≤ b + 2753 * n + (z + z')) (hn : n ≤ 512) (h1 : z ≤ 164414) (h2 : z' ≤ 164414) : a ≤ b + 1738364 := by omega
/-- the law, out of a start where the invariant holds -/
theorem law_run {p A : Nat → Nat} {sc X0 S0 L : Nat} {xs : Nat → Int32} {c0 c1 c2 c3 c4 c5 c6 c7 c8 c9 c10 c11 c12 c13 : Cl} {d : Ad} (hL : L ≤ 3072) (h : IJ p A X0 S0 L xs 0 c0 c1 c2 c3 c4 c5 c6 c7 c8 c9 c10 c11 c12 c13 d) : ∃ r, F_306 c0 c1 c2 c3 c4 c5 c6 c7 c8 c9 c10 c11 c12 c13 d sc (p 0) (p 1) = some r ∧ r.1 = 1 ∧ aX r.2.2.2.2.2.2.2.2.2.2.2.2.2.2.2 ≤ X0 + 133120 ∧ aS r.2.2.2.2.2.2.2.2.2.2.2.2.2.2.2 ≤ S0 + 1738364 := by
  have hi : ∀ n w d, IV p A X0 S0 L xs n w d → aL d = L ∧ aT d = xs := fun n w d h => h.2.2.2.2.2.2.2.2.2
  have hm : ∀ n w d, IV p A X0 S0 L xs n w d → IV p A X0 S0 L xs (n + 1) w d := fun n w d h => IJ_n h
  obtain ⟨n', r, g1, g2, g3, g4⟩ := law_all (sc := sc) hL hi hm st_0 st_1 st_2 st_3 st_4 st_5 st_6 st_7 st_8 st_9 st_10 st_11 st_12 st_13 st_14 st_15 st_16 st_17 st_18 st_19 st_20 st_21 st_22 st_23 st_24 st_25 st_26 st_27 st_28 st_29 st_30 st_31 st_32 600 0 c0 c1 c2 c3 c4 c5 c6 c7 c8 c9 c10 c11 c12 c13 d (by decide) (Nat.zero_le _) h
  have q1 : aX r.2.2.2.2.2.2.2.2.2.2.2.2.2.2.2 ≤ X0 + 260 * n' := g4.2.2.2.2.2.2.2.2.1
  have q2 : ∃ Z Z', aS r.2.2.2.2.2.2.2.2.2.2.2.2.2.2.2 ≤ S0 + 2753 * n' + (pot Z + pot Z') := by
    obtain ⟨P, Pq, P', Pq', Z, Z', Y, Y', w⟩ := g4.2.2.2.2.1
    exact ⟨Z, Z', w.2.2.2.2.2.2.2⟩
  obtain ⟨Z, Z', q2⟩ := q2
  have z1 := pot_le Z
  have z2 := pot_le Z'
  exact ⟨r, g1, g2, rm_end q1 g3, sl_end q2 g3 z1 z2⟩
set_option maxHeartbeats 1000000 in
theorem pure_at {sc B L : Nat} {xs : Nat → Int32} (hL : L ≤ 3072) : PureAt sc B L xs := by
  intro X B2 X2 rr u v y e hX hB2 hX2 hu hv h8 h10 hN hP _ _ hXe hSe hLe hTe
  obtain ⟨c11, h11⟩ : ∃ c11, c11 = xC_11 zcl B X := ⟨_, rfl⟩
  obtain ⟨c12, h12⟩ : ∃ c12, c12 = sA (zat zcl B2) 25 B2 (cA y 0 (X2 + 12)) := ⟨_, rfl⟩
  obtain ⟨c8, hc8⟩ : ∃ c8, c8 = nC_8 rr.1 (X + 257) (cR rr.1 0 (cR rr.2.1 0 (X + 11))) := ⟨_, rfl⟩
  have i11 : ∀ k, cI c11 k B = 0 := fun k => by rw [h11]; exact (zat_z B).1 k
  have q11 : ∀ k, cQ c11 k B = fun _ => none := fun k => by rw [h11]; exact (zat_z B).2.2 k
  have i12 : ∀ k, cI c12 k B2 = 0 := fun k => by rw [h12, cI_sA]; exact (zat_z B2).1 k
  have z12 : ∀ k, k ≠ 25 → cA c12 k B2 = fun _ => 0 := fun k hk => by rw [h12, cA_ne hk]; exact (zat_z B2).2.1 k
  have a25 : cA c12 25 B2 = cA y 0 (X2 + 12) := by rw [h12, cA_same]
  have nle : ∀ i, i ≤ 20 → nA (X + 20) i < X + 257 := fun i hi => by unfold nA; split <;> omega
  have hPF : PF (pK B B2 X) (nC_0 zcl (X + 284) (X + 268)) (xC_2 zcl B X) (xC_3 zcl B X) (xC_5 zcl B X) (nC_7 zcl (X + 281) (X + 268)) (nC_9 zcl v (X + 285) (X + 268)) c11 := by
    rw [h11]
    unfold PF xC_11 nC_0 xC_2 xC_3 xC_5 nC_7 nC_9
    simp only [pK, cR_sR, Nat.reduceEqDiff, false_and, and_true, true_and, if_false, if_true, and_self, ↓reduceIte]
  have hWM := first_w (X := X) (X1 := aX e) (c1 := nC_1 zcl (X + 12)) (c8 := c8) (c10 := rr.2.1) (c12 := c12) rfl (by rw [hc8, h8]) h10 h12 (by omega)
  have hRW : RWS (pK B B2 X) zcl (nC_6 zcl u (X + 268)) (nC_9 zcl v (X + 285) (X + 268)) c11 c12 y e (312577 + 2753 * 0) := by
    obtain ⟨n1, n2, n3, n4, n5, n6⟩ := hN
    refine ⟨X + 277, X + 279, X + 278, X + 280, 0, 0, X + 289, X + 290, ⟨0, by decide, i11 6, i12 2, fun i hi => absurd hi (Nat.not_lt_zero _)⟩, ⟨?_, ⟨n1, n3, n2, n4⟩, ⟨by decide, by decide⟩, ⟨by omega, by omega, by omega, by omega⟩, by omega, by omega, by omega, by omega, by omega, by omega⟩, ⟨fun s hs => absurd hs (Nat.not_lt_zero _), fun s hs => absurd hs (Nat.not_lt_zero _)⟩, ⟨?_, ?_, by omega, n5, n6⟩, ⟨by omega, by omega⟩, ⟨?_, ?_⟩, fun i r q => ?_, by omega⟩
    · unfold nC_6
      simp only [pK, cR_sR, hu, Nat.reduceEqDiff, false_and, and_true, true_and, if_false, if_true, and_self, ↓reduceIte]
    · unfold nC_9
      simp only [pK, cR_sR, hv, Nat.reduceEqDiff, false_and, and_true, true_and, if_false, if_true, and_self, ↓reduceIte]
    · unfold nC_9
      simp only [pK, cR_sR, hv, Nat.reduceEqDiff, false_and, and_true, true_and, if_false, if_true, and_self, ↓reduceIte]
    · intro z
      simp only [List.mem_cons, List.not_mem_nil, or_false] at z
      omega
    · intro z
      simp only [List.mem_cons, List.not_mem_nil, or_false] at z
      omega
    · rw [show cQ c11 5 (pK B B2 X 0) = fun _ => none from q11 5] at q
      cases q
  have hPw : Pw c12 (pK B B2 X 1) := fun h hh => by
    show cA c12 25 B2 h = _
    rw [a25]
    obtain ⟨g0, g1, g2, g3, g4, g5⟩ := hP
    have h6 : h = 0 ∨ h = 1 ∨ h = 2 ∨ h = 3 ∨ h = 4 ∨ h = 5 := by omega
    rcases h6 with rfl | rfl | rfl | rfl | rfl | rfl
    · exact g0
    · exact g1
    · exact g2
    · exact g3
    · exact g4
    · exact g5
  have h0 : IJ (pK B B2 X) (nA (X + 20)) (aX e) 312577 L xs 0 (nC_0 zcl (X + 284) (X + 268)) (nC_1 zcl (X + 12)) (xC_2 zcl B X) (xC_3 zcl B X) zcl (xC_5 zcl B X) (nC_6 zcl u (X + 268)) (nC_7 zcl (X + 281) (X + 268)) c8 (nC_9 zcl v (X + 285) (X + 268)) rr.2.1 c11 c12 y e :=
    ⟨⟨fun i j _ _ q => by unfold nA at q; split at q <;> split at q <;> omega, fun i hi => ⟨by have := nle i hi; omega, Nat.ne_of_lt (nle i hi)⟩, by show X + 11 < _; omega, by show X + 257 < _; omega⟩, hPF, TP_0 (i11 1) (i12 1), ⟨0, 0, 0, 0, 3, fun _ => 0, hWM, fun z => absurd z (Nat.not_lt_zero _)⟩, hRW, hPw, ⟨fun _ => 0, fun _ _ => 0, fun k _ => Or.inl ⟨by rw [show cA c12 51 (pK B B2 X 1) = fun _ => 0 from z12 51 (by decide)], by rw [show cQ c11 8 (pK B B2 X 0) = fun _ => none from q11 8]⟩, fun k j _ _ _ z => absurd (by rw [show cQ c11 8 (pK B B2 X 0) = fun _ => none from q11 8]) z⟩, Nat.le_refl _, by omega, hLe, hTe⟩
  obtain ⟨r, g1, g2, g3, g4⟩ := law_run (sc := sc) hL h0
  rw [← hc8, ← h11, ← h12]
  exact ⟨r, g1, g2, Nat.le_trans g3 (by rw [hXe, hX2, hB2, hX]; omega), Nat.le_trans g4 (Nat.le_of_ble_eq_true rfl)⟩
