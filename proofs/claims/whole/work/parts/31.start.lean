/-! ===== the law from its start: what is left is pure ===== -/
/-- what the functions owe: from the two new objects on, over every script of L ints, the law's function answers 1 within its room -/
def PureAt (sc B L : Nat) (xs : Nat → Int32) : Prop := ∀ (X B2 X2 : Nat) (rr : Cl × Cl × Ad) (u v : Ad) (y : Cl) (e : Ad), X = B + 1 → B2 = X + 293 → X2 = B2 + 1 → aX u = X + 269 → aX v = X + 286 → rr.1 = wS (nC_8 zcl (X + 21 + 4) (X + 12)) (X + 21 + 15) (X + 12) 20 → rr.2.1 = wQ (sR (zat zcl (X + 11)) 0 (X + 11) (X + 21 + 4)) (X + 11) (X + 21 + 15) 20 → (aN e (X + 277) = 0 ∧ aN e (X + 278) = 0 ∧ aN e (X + 279) = 0 ∧ aN e (X + 280) = 0 ∧ aN e (X + 289) = 64 ∧ aN e (X + 290) = 64) → (cA y 0 (X2 + 12) 0 = 7776 ∧ cA y 0 (X2 + 12) 1 = 1296 ∧ cA y 0 (X2 + 12) 2 = 216 ∧ cA y 0 (X2 + 12) 3 = 36 ∧ cA y 0 (X2 + 12) 4 = 6 ∧ cA y 0 (X2 + 12) 5 = 1) → (∀ b, b ≠ X2 + 12 → cA y 0 b = cA (nC13_9 (nC13_6 zcl u) v) 0 b) → cB y = cB (nC13_9 (nC13_6 zcl u) v) → aX e = X2 + 36 → aS e = 312577 → aL e = L → aT e = xs → ∃ r, F_306 (nC_0 zcl (X + 284) (X + 268)) (nC_1 zcl (X + 12)) (xC_2 zcl B X) (xC_3 zcl B X) zcl (xC_5 zcl B X) (nC_6 zcl u (X + 268)) (nC_7 zcl (X + 281) (X + 268)) (nC_8 rr.1 (X + 257) (cR rr.1 0 (cR rr.2.1 0 (X + 11)))) (nC_9 zcl v (X + 285) (X + 268)) rr.2.1 (xC_11 zcl B X) (sA (zat zcl B2) 25 B2 (cA y 0 (X2 + 12))) y e sc B B2 = some r ∧ r.1 = 1 ∧ aX r.2.2.2.2.2.2.2.2.2.2.2.2.2.2.2 ≤ B + 600000 ∧ aS r.2.2.2.2.2.2.2.2.2.2.2.2.2.2.2 ≤ 7302250
theorem Adw.s {a0 a c k c0 k0 : Nat} {d e : Ad} (h : Adw a0 d e) (h0 : aK d a0 = (3, c0, k0)) (ha : aK d a = (8, c, k)) : aK e a = (8, c, k) := by
  rw [h.2.1 a (fun q => by rw [q, h0] at ha; cases ha) (by rw [ha]; exact fun q => by cases q)]; exact ha
set_option maxRecDepth 100000 in
set_option maxHeartbeats 4000000 in
theorem l_306 {d : Ad} {h : UH} {sc : Nat} (hW : HW (mkw zcl zcl zcl zcl zcl zcl zcl zcl zcl zcl zcl zcl zcl zcl) d h) (hS0 : aS d = 0) (hsc : aK d sc = (8, 0, 0)) (hP : PureAt sc (aX d) (aL d) (aT d)) : Ends (EX 60) (u_at kl_306) (0, [some (.ref sc), none, none, none], [], h) (fun q => q.1 = some (.int 1) ∧ q.2.2.1 ≤ aX d + 600000 ∧ q.2.2.2 ≤ 7302250) := by
  obtain ⟨QQ, hQQ⟩ : ∃ QQ : UR → Prop, QQ = (fun q : UR => q.1 = some (.int 1) ∧ q.2.2.1 ≤ aX d + 600000 ∧ q.2.2.2 ≤ 7302250) := ⟨_, rfl⟩
  rw [← hQQ]
  obtain ⟨B, hB⟩ : ∃ B, B = aX d := ⟨_, rfl⟩
  refine en_newO (A := B) (B := 0) (N := 15) (by decide +kernel : u_at kl_306 0 = some (.new 7, [11])) hW hB.symm hS0 rfl (fun h e1 hE1 hW x1 k1 f1 hX1 hS1 => ?_)
  have hsc1 := x1.s hsc
  refine en_segs [(3, .dup, [])] (by decide +kernel) (y := (4, [some (.ref sc), none, none, none], [.ref B, .ref B], h)) rfl ?_
  obtain ⟨q, q1, q2, rr, e2, u, v, hW2, hu, hv, r1, r2, hX2, hS2, W2, ka1, hN, hKf⟩ := e_122 (D := 60) (by decide) hW k1 f1
  refine en_iw (P := fun h' => h' = q.2) (r := [.ref B]) (by decide +kernel : u_at kl_306 4 = some (.invokespecial 9, [122, 0, 11])) hW k1 rfl rfl (Nat.le_of_ble_eq_true rfl) ⟨q, q1, q2, rfl⟩ (fun h' hh => ?_)
  rw [← hh] at hW2
  clear hh q1 q2 hW
  have hsc2 := W2.s k1 hsc1
  have L2 : aL e2 = aL d := W2.2.2.2.2.2.1.trans x1.2.2.2.2.2.1
  have T2 : aT e2 = aT d := W2.2.2.2.2.2.2.1.trans x1.2.2.2.2.2.2.1
  obtain ⟨X, hX⟩ : ∃ X, X = aX e1 := ⟨_, rfl⟩
  rw [← hX] at hW2 hu hv r1 r2 hX2 hN hKf
  refine en_segs [(7, .astore_n 1, [])] (by decide +kernel) (y := (8, [some (.ref sc), some (.ref B), none, none], [], h')) rfl ?_
  obtain ⟨B2, hB2⟩ : ∃ B2, B2 = X + 293 := ⟨_, rfl⟩
  refine en_newO (A := B2) (B := 5520) (N := 52) (by decide +kernel : u_at kl_306 8 = some (.new 10, [12])) hW2 (hX2.trans hB2.symm) (by rw [hS2, hS1]) rfl (fun h e3 hE3 hW x3 k3 f3 hX3 hS3 => ?_)
  have hsc3 := x3.s hsc2
  have ka3 := x3.o ka1
  refine en_segs [(11, .dup, [])] (by decide +kernel) (y := (12, [some (.ref sc), some (.ref B), none, none], [.ref B2, .ref B2], h)) rfl ?_
  obtain ⟨q, q1, q2, y, e4, hW4, hy1, hy2, hy3, hX4, hS4, W4, kb4⟩ := e_169 (D := 60) (by decide) hW k3 f3
  refine en_iw (P := fun h' => h' = q.2) (r := [.ref B2]) (by decide +kernel : u_at kl_306 12 = some (.invokespecial 12, [169, 0, 12])) hW k3 rfl rfl (Nat.le_of_ble_eq_true rfl) ⟨q, q1, q2, rfl⟩ (fun h' hh => ?_)
  rw [← hh] at hW4
  clear hh q1 q2 hW
  obtain ⟨X2, hX2'⟩ : ∃ X2, X2 = aX e3 := ⟨_, rfl⟩
  rw [← hX2'] at hW4 hy1 hy2 hX4
  have hsc4 := W4.s k3 hsc3
  have ka4 := W4.o k3 ka3
  have nn : ∀ j t, aK e2 j = (2, t, 0) → aN e4 j = aN e2 j := fun j t g => (W4.2.2.2.1 j t (fun z => by have := x3.f g; rw [z, k3] at this; cases this) (x3.f g)).trans (x3.2.2.2.1 j t g)
  obtain ⟨g1, g2, g3, g4, g5, g6⟩ := hN
  obtain ⟨m1, m2, m3, m4, m5, m6⟩ := hKf
  obtain ⟨r, hr, hr1, hrX, hrS⟩ := hP X B2 X2 rr u v y e4 (by rw [hX, hX1, hB]) hB2 (by rw [hX2', hX3]) hu hv r1 r2 ⟨(nn _ _ m1).trans g1, (nn _ _ m2).trans g2, (nn _ _ m3).trans g3, (nn _ _ m4).trans g4, (nn _ _ m5).trans g5, (nn _ _ m6).trans g6⟩ hy1 hy2 hy3 hX4 (by rw [hS4, hS3]) (W4.2.2.2.2.2.1.trans (x3.2.2.2.2.2.1.trans L2)) (W4.2.2.2.2.2.2.1.trans (x3.2.2.2.2.2.2.1.trans T2))
  rw [← hB] at hr hrX
  refine en_segs [(15, .astore_n 2, [])] (by decide +kernel) (y := (16, [some (.ref sc), some (.ref B), some (.ref B2), none], [], h')) rfl ?_
  refine t_306 (D := 60) (by decide) hW4 hsc4 ka4 kb4 hr QQ (fun h5 g => ?_)
  rw [hQQ]
  obtain ⟨gW, gX⟩ := g
  refine ⟨by rw [hr1], ?_, ?_⟩
  · show h5.2.1 ≤ _
    rw [gW.2.1, ← hB]; exact hrX
  · show h5.2.2 ≤ _
    rw [gW.2.2.1]; exact hrS
