/-! ===== messages: both alike, whole ===== -/
section Msg4
variable {c1 c6 c8 c9 c10 c11 c12 c13 : Cl} {d : Ad} {sc st B B2 w : Nat} {S : Nat → Int32} {A : Nat → Nat} {X R D H Q M L E h : Nat} {K : Nat → Nat}
theorem gl_290c {f : Nat → Int64} {c : Cl} (hf : ∀ t, t < 64 → cB c 43 B2 t = f t) : ∀ (m s : Nat), s + m = 64 → G_290 B2 2 [nI s] [sl f s] [] c = some (sl f 64, c)
  | 0, s, hs => by
    have : s = 64 := by omega
    subst this
    rw [G_290]
    exact in_pos (by decide) rfl
  | m + 1, s, hs => by
    have ih := gl_290c hf m (s + 1) (by omega)
    rw [G_290]
    refine in_neg (show ¬ (64 : Int32) ≤ nI s from nI_ge (a := s) (b := 64) (by omega) (by decide)) (ob_mk (ldl_ok (by omega) (by decide)) ?_)
    rw [hf s (by omega), nI_1]
    exact ih
theorem rwk_z {f : Nat → Int64} (hz : Rwz R f) : ∀ i, Rwz R (rwk S R H D Q h f i)
  | 0 => hz
  | _ + 1 => nxr_z
theorem gl_290b {f : Nat → Int64} {c0 : Cl} {n : Nat} (hS : SR c1 c8 st S R D H Q M L E K) (eS : cA c0 20 B2 = S) (hh : h < H) (hl : ¬ lv S h = 0) (n12 : n ≤ 12) (hz : Rwz R f) : ∀ (m i : Nat) (c' : Cl), i + m = n → Kp [43, 44] c0 c' → (∀ t, t < 64 → cB c' 43 B2 t = rwk S R H D Q h f i t) → Rn (G_290 B2 1 [nI h, nI n, nI i] [] [] c') (fun r => r.1 = sl (rwk S R H D Q h f n) 64 ∧ Kp [43, 44] c0 r.2)
  | 0, i, c', hi, hK, h1 => by
    have : i = n := by omega
    subst this
    rw [G_290]
    exact rn_p (nI_le (Nat.le_refl _) (by omega)) (rn_q (gl_290c h1 64 0 rfl) ⟨rfl, hK⟩)
  | m + 1, i, c', hi, hK, h1 => by
    rw [G_290]
    refine rn_n (nI_ge (by omega) (by omega)) (rn_b (f_289 (c0 := c') hS (by rw [(hK 20 (by decide)).2.2.2.1]; exact eS) hh hl (rwk_z hz i) h1) (fun t ⟨t1, t2⟩ => ?_))
    rw [nI_1]
    exact gl_290b hS eS hh hl n12 hz m (i + 1) t (by omega) (kp_tr hK t1) t2
theorem gl_290a {c0 : Cl} {n : Nat} (hS : SR c1 c8 st S R D H Q M L E K) (eS : cA c0 20 B2 = S) (hh : h < H) (hl : ¬ lv S h = 0) (n12 : n ≤ 12) : ∀ (m s : Nat) (c' : Cl), s + m = 64 → Kp [43, 44] c0 c' → (∀ t, t < s → cB c' 43 B2 t = 0) → Rn (G_290 B2 0 [nI h, nI n, nI s] [] [] c') (fun r => r.1 = sl (rwk S R H D Q h (fun t => if t = 2 ^ q0 S h then 1 else 0) n) 64 ∧ Kp [43, 44] c0 r.2)
  | 0, s, c', hs, hK, h1 => by
    have : s = 64 := by omega
    subst this
    obtain ⟨⟨-, -, r6⟩, -, ⟨-, -, h6⟩, -⟩ := id hS.1.1
    have ql := q0_lt hS hh hl
    have l6 : (2 : Nat) ^ R ≤ 2 ^ 6 := Nat.pow_le_pow_right (by decide) r6
    have l7 : (2 : Nat) ^ q0 S h < 2 ^ R := Nat.pow_lt_pow_right (by decide) ql
    have l8 : 0 < (2 : Nat) ^ q0 S h := Nat.two_pow_pos _
    have eS' : cA c' 20 B2 = S := by rw [(hK 20 (by decide)).2.2.2.1]; exact eS
    rw [G_290]
    refine rn_p (by decide) (rn_e (v := nI (q0 S h)) ((f_223 (w := 0) (by omega) (by decide)).trans (by rw [eS', q0_nI hS hh hl])) ?_)
    rw [sh_R ⟨q0 S h, by omega⟩]
    refine rn_sl (i := 2 ^ q0 S h) (by omega) (by decide) ?_
    refine gl_290b (c0 := c0) hS eS hh hl n12 ⟨if_neg (by omega), fun t a b => if_neg (by omega)⟩ n 0 _ (by omega) (kp_tr hK (kp_B (by decide))) (fun t ht => ?_)
    rw [cB_same]
    show _ = if t = 2 ^ q0 S h then (1 : Int64) else 0
    by_cases z : t = 2 ^ q0 S h
    · rw [if_pos z, z, pk_uLs]
    · rw [if_neg z, pk_uLn z]; exact h1 t ht
  | m + 1, s, c', hs, hK, h1 => by
    rw [G_290]
    refine rn_n (show ¬ (64 : Int32) ≤ nI s from nI_ge (a := s) (b := 64) (by omega) (by decide)) (rn_sl (by omega) (by decide) ?_)
    rw [nI_1]
    refine gl_290a hS eS hh hl n12 m (s + 1) _ (by omega) (kp_tr hK (kp_B (by decide))) (fun t ht => ?_)
    rw [cB_same]
    by_cases z : t = s
    · rw [z, pk_uLs]
    · rw [pk_uLn z]; exact h1 t (by omega)
/-- what a call that looks at a scene leaves -/
theorem q_messages {p1 p2 : Int32} {P P' : Nat} (h : WM c1 c8 c10 c12 B2 (cR c11 7 B) A X R D H Q L K) (hr : Rw2 c9 d (cR c11 14 B) P P') : ∃ rx rm, F_149 c1 c6 c8 c9 c10 c11 c13 d B p1 p2 = some rx ∧ F_290 c12 B2 p1 p2 = some rm ∧ rx.1 = rm.1 ∧ Kp [0, 1, 2, 3, 4, 5, 6, 7, 8, 9, 10, 11] c6 rx.2.1 ∧ Oth (cR c9 0 (cR c11 14 B)) c6 rx.2.1 ∧ Kp [5, 6, 7, 8] c9 rx.2.2.1 ∧ Oth (cR c11 14 B) c9 rx.2.2.1 ∧ (Rw2 rx.2.2.1 d (cR c11 14 B) P P' ∨ Rw2 rx.2.2.1 d (cR c11 14 B) P' P) ∧ Ot2 P P' c13 rx.2.2.2 ∧ Kp [43, 44] c12 rm.2 := by
  obtain ⟨U, hU, a1, a2, a3, ⟨M, E, m9, s⟩, -⟩ := id h
  have s' := s
  rw [← a1] at s'
  have hN := s'.1.1
  obtain ⟨-, -, ⟨-, -, h6⟩, -⟩ := id hN
  have e1 : F_170 p2.toInt64 0 12 = some (if p2 < 0 then 0 else if 12 < p2 then 0 else 1) := f_170 p2 0 12
  have f1 := f_159 (c11 := c11) (B := B) (p := p1) hN s'.1.2.1
  unfold F_149 F_290
  have nope : ∀ {x : Option (Int64 × Cl × Cl × Cl)} {y : Option (Int64 × Cl)}, x = some (-1, c6, c9, c13) → y = some (-1, c12) → ∃ rx rm, x = some rx ∧ y = some rm ∧ rx.1 = rm.1 ∧ Kp [0, 1, 2, 3, 4, 5, 6, 7, 8, 9, 10, 11] c6 rx.2.1 ∧ Oth (cR c9 0 (cR c11 14 B)) c6 rx.2.1 ∧ Kp [5, 6, 7, 8] c9 rx.2.2.1 ∧ Oth (cR c11 14 B) c9 rx.2.2.1 ∧ (Rw2 rx.2.2.1 d (cR c11 14 B) P P' ∨ Rw2 rx.2.2.1 d (cR c11 14 B) P' P) ∧ Ot2 P P' c13 rx.2.2.2 ∧ Kp [43, 44] c12 rm.2 := fun hx hy => ⟨_, _, hx, hy, rfl, kp_rf _ _, oth_rf _ _, kp_rf _ _, oth_rf _ _, Or.inl hr, ot2_rf _ _ _, kp_rf _ _⟩
  rcases is1_of (n := H) (p := p1) (by omega) with q | ⟨q, i, hi, rfl⟩
  · rw [if_pos q] at f1
    exact nope (ob_mk f1 (in_pos rfl rfl)) (ob_mk (f_221 hN) (in_pos q rfl))
  have q0' : ¬ is1 H (nI i) = 0 := by rw [q]; decide
  rw [if_neg q0', nI_clamp (by omega)] at f1
  by_cases v : lv (cA c12 20 B2) i = 0
  · rw [if_pos v] at f1
    exact nope (ob_mk f1 (in_pos rfl rfl)) (ob_mk (f_221 hN) (in_neg q0' (ob_mk (f_224 (by omega)) (in_pos v rfl))))
  rw [if_neg v] at f1
  by_cases w1 : p2 < 0
  · rw [if_pos w1] at e1
    exact nope (ob_mk f1 (in_neg (by decide) (in_pos w1 rfl))) (ob_mk (f_221 hN) (in_neg q0' (ob_mk (f_224 (by omega)) (in_neg v (ob_mk e1 (in_pos rfl rfl))))))
  rw [if_neg w1] at e1
  by_cases w2 : 12 < p2
  · rw [if_pos w2] at e1
    exact nope (ob_mk f1 (in_neg (by decide) (in_neg w1 (in_neg (Int32.not_le.mpr w2) rfl)))) (ob_mk (f_221 hN) (in_neg q0' (ob_mk (f_224 (by omega)) (in_neg v (ob_mk e1 (in_pos rfl rfl))))))
  rw [if_neg w2] at e1
  obtain ⟨n, hn, rfl⟩ := nI_of2 (M := 12) (n := 12) rfl w1 (Int32.not_lt.mp w2)
  obtain ⟨rx, x1, x2, x3, x4, x5, x6, x7, x8⟩ := f_113 (c6 := c6) (c9 := c9) (c13 := c13) (d := d) (w := cR c11 14 B) (n := n) s' hi v hn hr
  obtain ⟨rm, m1, m2, m3⟩ := gl_290a (c0 := c12) (n := n) s' rfl hi v hn 64 0 c12 rfl (kp_rf _ _) (fun t ht => absurd ht (Nat.not_lt_zero _))
  exact ⟨rx, rm, ob_mk f1 (in_neg (by decide) (in_neg w1 (in_pos (Int32.not_lt.mp w2) (ob_mk x1 rfl)))), ob_mk (f_221 hN) (in_neg q0' (ob_mk (f_224 (by omega)) (in_neg v (ob_mk e1 (in_neg (by decide) m1))))), x2.trans m2.symm, x3, x4, x5, x6, x7, x8, m3⟩
end Msg4
