/-! ===== would and run: both alike ===== -/
def RR (c4 c11 c12 c13 : Cl) (d : Ad) (B B2 : Nat) : Prop := ∃ N, N ≤ 6 ∧ cI c11 6 B = nI N ∧ cI c12 2 B2 = nI N ∧ ∀ i, i < N → ∃ ru, cQ c11 5 B i = some ru ∧ RuR c4 c13 d ru c12 B2 i
section Run
variable {c1 c4 c7 c8 c10 c11 c12 c13 : Cl} {d : Ad} {B B2 : Nat} {A : Nat → Nat} {X R D H Q L M E : Nat} {K : Nat → Nat}
theorem RuR_c {c4' c12' : Cl} {ru t : Nat} (h4 : Kp [3] c4 c4') (h3 : cA c12' 3 = cA c12 3) (h5 : cA c12' 5 = cA c12 5) (h6 : cA c12' 6 = cA c12 6) (h : RuR c4 c13 d ru c12 B2 t) : RuR c4' c13 d ru c12' B2 t := by
  unfold RuR
  rw [(h4 0 (by decide)).2.2.1, (h4 1 (by decide)).2.2.1, (h4 2 (by decide)).2.2.1, h3, h5, h6]
  exact h
theorem RR_c {c4' c12' : Cl} (h4 : Kp [3] c4 c4') (h2 : cI c12' 2 = cI c12 2) (h3 : cA c12' 3 = cA c12 3) (h5 : cA c12' 5 = cA c12 5) (h6 : cA c12' 6 = cA c12 6) (h : RR c4 c11 c12 c13 d B B2) : RR c4' c11 c12' c13 d B B2 := by
  obtain ⟨N, n6, a1, a2, a3⟩ := h
  refine ⟨N, n6, a1, by rw [h2]; exact a2, fun i q => ?_⟩
  obtain ⟨ru, b1, b2⟩ := a3 i q
  exact ⟨ru, b1, RuR_c h4 h3 h5 h6 b2⟩
theorem f_163 {p : Int32} {N : Nat} (n6 : N ≤ 6) (h1 : cI c11 6 B = nI N) (h : ∀ i, i < N → ∃ ru, cQ c11 5 B i = some ru) : F_163 c11 B p = some (is1 N p) := by
  unfold F_163 is1
  rw [h1]
  rcases pk_ix p (n := N) (by omega) with q | q | ⟨i, hi, rfl⟩
  · rw [if_pos q, if_pos q]; rfl
  · by_cases z : p < 0
    · rw [if_pos z, if_pos z]; rfl
    · rw [if_neg z, if_neg z, if_pos q, if_pos q]; rfl
  · obtain ⟨ru, e⟩ := h i hi
    rw [if_neg (nI_pos (by omega)), if_neg (nI_pos (by omega)), if_neg (nI_ge hi (by omega)), if_neg (nI_ge hi (by omega))]
    refine ob_mk (v := 1) (ob_mk (ldq_ok (by omega) (by decide)) ?_) rfl
    rw [e]; rfl
theorem f_213 {p : Int32} {N : Nat} (h1 : cI c12 2 B2 = nI N) : F_213 c12 B2 p = some (is1 N p) := is_1 h1
theorem f_159 {p : Int32} {S : Nat → Int32} (hN : SnR c1 c8 (cR c10 0 (cR c11 7 B)) S R D H Q M) (hs : ShR c1 c8 (cR c10 0 (cR c11 7 B)) S H) : F_159 c1 c8 c10 c11 B p = some (if is1 H p = 0 then 0 else if lv S p.toNatClampNeg = 0 then 0 else 1) := by
  have h6 := hN.2.2.1.2.2
  unfold F_159
  have g : F_158 c1 c8 c10 c11 B p = some (is1 H p) := is_1 hN.2.2.1.1
  refine ob_mk g ?_
  rcases is1_of (n := H) (p := p) (by omega) with q | ⟨q, i, hi, rfl⟩
  · rw [if_pos q, if_pos q]; rfl
  · have q0 : ¬ is1 H (nI i) = 0 := by rw [q]; decide
    rw [if_neg q0, if_neg q0, nI_clamp (by omega)]
    have e := f_83 hi h6 hs
    by_cases w : lv S i = 0
    · rw [if_pos w]; exact ob_mk (ob_mk e (in_pos w rfl)) rfl
    · rw [if_neg w]; exact ob_mk (ob_mk e (in_neg w rfl)) rfl
theorem q_would {p1 p2 : Int32} (h : WM c1 c8 c10 c12 B2 (cR c11 7 B) A X R D H Q L K) (hR : RR c4 c11 c12 c13 d B B2) : ∃ rx rm, F_138 c1 c4 c8 c10 c11 c13 d B p1 p2 = some rx ∧ F_251 c12 B2 p1 p2 = some rm ∧ rx.1 = rm.1 ∧ Kp [3] c4 rx.2 ∧ Kp [17, 18, 19] c12 rm.2 := by
  obtain ⟨U, hU, a1, a2, a3, ⟨M, E, m9, s⟩, -⟩ := id h
  obtain ⟨N, n6, r1, r2, r3⟩ := id hR
  have s' := s
  rw [← a1] at s'
  have hN := s'.1.1
  have h6 := hN.2.2.1.2.2
  have r6 := hN.1.2.2
  have f1 := f_163 (p := p1) n6 r1 (fun i q => by obtain ⟨ru, e, -⟩ := r3 i q; exact ⟨ru, e⟩)
  unfold F_138 F_251
  rcases is1_of (n := N) (p := p1) (by omega) with q | ⟨q, t, ht, rfl⟩
  · exact ⟨_, _, ob_mk f1 (in_pos q rfl), ob_mk (f_213 r2) (in_pos q rfl), rfl, kp_rf _ _, kp_rf _ _⟩
  have q0 : ¬ is1 N (nI t) = 0 := by rw [q]; decide
  have f2 := f_159 (p := p2) hN s'.1.2.1
  rcases is1_of (n := H) (p := p2) (by omega) with z | ⟨z, i, hi, rfl⟩
  · rw [if_pos z] at f2
    exact ⟨_, _, ob_mk f1 (in_neg q0 (ob_mk f2 (in_pos rfl rfl))), ob_mk (f_213 r2) (in_neg q0 (ob_mk (f_221 hN) (in_pos z rfl))), rfl, kp_rf _ _, kp_rf _ _⟩
  have z0 : ¬ is1 H (nI i) = 0 := by rw [z]; decide
  rw [if_neg z0, nI_clamp (by omega)] at f2
  by_cases w : lv (cA c12 20 B2) i = 0
  · rw [if_pos w] at f2
    exact ⟨_, _, ob_mk f1 (in_neg q0 (ob_mk f2 (in_pos rfl rfl))), ob_mk (f_213 r2) (in_neg q0 (ob_mk (f_221 hN) (in_neg z0 (ob_mk (f_224 (by omega)) (in_pos w rfl))))), rfl, kp_rf _ _, kp_rf _ _⟩
  rw [if_neg w] at f2
  obtain ⟨ru, e1, e2⟩ := r3 t ht
  obtain ⟨x, hx, ⟨⟨v1, d1⟩, g1, g11, g12⟩, ⟨⟨v2, d2⟩, g2, g21, g22⟩⟩ := by_ok hi (by omega) s' e2
  dsimp only at g11 g12 g21 g22
  subst g11
  subst g21
  refine ⟨(if v2 = -1 then -2 else v2, d1), (if v2 = -1 then -2 else v2, d2), ob_mk f1 (in_neg q0 (ob_mk f2 (in_neg (by decide) (ob_mk (v := some ru) ((ldq_ok (by omega) (by decide)).trans (by rw [e1])) (ob_mk rfl (ob_mk g1 ?_)))))), ob_mk (f_213 r2) (in_neg q0 (ob_mk (f_221 hN) (in_neg z0 (ob_mk (f_224 (by omega)) (in_neg w (ob_mk g2 ?_)))))), rfl, g12, g22⟩
  · refine ob_mk (v := if v2 = -1 then -2 else v2) ?_ rfl
    dsimp only
    split <;> rfl
  · dsimp only
    rcases hx with e | ⟨r, hr, e, -⟩
    · rw [if_pos e]; exact ob_mk (in_neg (by rw [e]; decide) rfl) rfl
    · have : ¬ v2 = -1 := fun z => by have := nI_pos (n := r) (by omega); rw [← e, z] at this; exact this (by decide)
      rw [if_neg this]; exact ob_mk (in_pos (by rw [e]; exact nI_pos' (by omega)) rfl) rfl
/-- what one minute by a rule leaves -/
def MrP (c1 c4 c8 c10 c12 : Cl) (B2 w : Nat) (A : Nat → Nat) (X R D H Q L : Nat) (K : Nat → Nat) (M : Nat) (r : Cl × Cl × Cl) (m : Cl) : Prop := Kp [3] c4 r.1 ∧ WM c1 r.2.1 r.2.2 m B2 w A X R D H Q L K ∧ (∀ a, (∀ i, i ≤ 20 → a ≠ A i) → Sm8 c8 a r.2.1 a) ∧ Oth w c10 r.2.2 ∧ Kp [17, 18, 19, 20, 22, 23] c12 m ∧ cA m 20 B2 4 = nI (M + 1)
theorem mr_loop {t U ru : Nat} {r9 : Cl} (inj : ∀ i j, i ≤ 20 → j ≤ 20 → A i = A j → i = j) (t6 : t < 6) (hw : WR c1 c8 c10 (cR c11 7 B) A (cA c12 20 B2) (cA c12 22 B2) U (cI c12 21 B2) X R D H Q L K) (h4 : cA c12 20 B2 4 = nI M) (hM : M + 1 ≤ 9999) (hR : RuR c4 c13 d ru c12 B2 t) (e9 : r9 = sI (sA c12 22 B2 (kmW (cA c12 22 B2) U (cA c12 20 B2))) 23 B2 (nI (kmU U))) : ∀ (m i : Nat) (c4' r' : Cl), i + m = H → Kp [3] c4 c4' → Kp [17, 18, 19] r9 r' → ∃ r m, G_166 c1 c8 c10 c11 c13 d B ru 0 [nI i] [] [] c4' = some r ∧ G_252 B2 0 [nI t, 0, nI i] [] [] r' = some m ∧ MrP c1 c4 c8 c10 c12 B2 (cR c11 7 B) A X R D H Q L K M r m := by
  obtain ⟨a1, a2, a3, ⟨M0, E, m9, s⟩, ⟨o, o20, b1, b2, b3, b4⟩, a4, tt⟩ := id hw
  have eM : M0 = M := (nI_eq (by omega) (by omega)).mp (s.1.1.2.2.2.2.2.1.symm.trans h4)
  subst eM
  have s' := s
  rw [← a1] at s'
  obtain ⟨⟨-, hRr, r6⟩, ⟨-, hD, d10⟩, ⟨hH1, hH, h6⟩, -, n13, n14, n15⟩ := id s'.1.1
  have k9 : Kp [22, 23] c12 r9 := by rw [e9]; exact kp_tr (kp_A (by decide)) (kp_I (by decide))
  have W9 : cA r9 22 B2 = kmW (cA c12 22 B2) U (cA c12 20 B2) := by rw [e9, cA_sI, cA_same]
  have U9 : cI r9 23 B2 = nI (kmU U) := by rw [e9, cI_same]
  have S9 : ∀ {r' : Cl}, Kp [17, 18, 19] r9 r' → cA r' 20 B2 = cA c12 20 B2 := fun {r'} k => by rw [(k 20 (by decide)).2.2.2.1, (k9 20 (by decide)).2.2.2.1]
  have fin : ∀ (rp : Cl × Cl) (T : Nat → Int32) (c4' r' : Cl), Kp [3] c4 c4' → Kp [17, 18, 19] r9 r' → WR c1 rp.1 rp.2 (cR c11 7 B) A T (kmW (cA c12 22 B2) U (cA c12 20 B2)) (kmU U) (cI c12 21 B2) X R D H Q L K → (∀ a, (∀ i, i ≤ 20 → a ≠ A i) → Sm8 c8 a rp.1 a) → Oth (cR c11 7 B) c10 rp.2 → T 4 = nI (M0 + 1) → MrP c1 c4 c8 c10 c12 B2 (cR c11 7 B) A X R D H Q L K M0 (c4', rp.1, rp.2) (sA r' 20 B2 T) := fun rp T c4' r' k4 kr w1 w2 w3 w4 => by
    refine ⟨k4, ⟨kmU U, ?_, ?_⟩, w2, w3, kp_tr (kp_wd k9 (by decide)) (kp_tr (kp_wd kr (by decide)) (kp_A (by decide))), by rw [cA_same]; exact w4⟩
    · rw [cI_sA, (kr 23 (by decide)).1, U9]
    · dsimp only
      rw [cA_same, cA_ne (by decide), cI_sA, (kr 22 (by decide)).2.2.2.1, (kr 21 (by decide)).1, (k9 21 (by decide)).1, W9]
      exact w1
  intro m
  induction m with
  | zero =>
    intro i c4' r' hi hK hK2
    have : i = H := by omega
    subst this
    have T4 : mS (cA c12 20 B2) 4 = nI (M0 + 1) := by unfold mS; rw [pk_us, n14, nI_1]
    obtain ⟨rp, rp1, rp2, rp3, rp4⟩ := pm_ok (M := M0) (p1 := -1) (p2 := -1) (p3 := 0) (S' := kp (mS (cA c12 20 B2)) i (112 + 6 * ((M0 + 1) % 12)) R) inj hw n14 (by omega) (fun j y => by
      have := Nat.mod_lt (M0 + 1) (show 0 < 12 by decide)
      rw [kp_out (by omega), mS_un (by omega)]) (fun c8' E0 s0 => pass_none s0 (by omega))
    refine ⟨(c4', rp.1, rp.2), sA r' 20 B2 (kp (mS (cA c12 20 B2)) i (112 + 6 * ((M0 + 1) % 12)) R), ?_, ?_, fin rp _ c4' r' hK hK2 rp2 rp3 rp4 (by rw [kp_out (by omega)]; exact T4)⟩
    · rw [G_166]
      exact in_pos (by rw [hH1]; exact nI_le (Nat.le_refl _) (by omega)) (ob_mk rp1 rfl)
    · rw [G_252]
      refine ob_mk al_2 (in_pos (by rw [S9 hK2, hH]; exact nI_le (Nat.le_refl _) (by omega)) ?_)
      rw [G_252]
      refine ob_mk (v := sA r' 20 B2 (mS (cA c12 20 B2))) (f_242.trans (by rw [S9 hK2]; rfl)) (ob_mk ((f_227 (R := R) (H := i) (M := M0 + 1) (by rw [cA_same, mS_un (by decide)]; exact hRr) r6 (by rw [cA_same, mS_un (by decide)]; exact hH) h6 (by rw [cA_same]; exact T4) (by omega)).trans (by rw [cA_same, sA_sA])) rfl)
  | succ m ih =>
    intro i c4' r' hi hK hK2
    have f83 := f_83 (c8 := c8) (show i < H by omega) h6 s'.1.2.1
    have f224 := f_224 (c := r') (a := B2) (h := i) (by omega)
    rw [S9 hK2] at f224
    have nx1 : ∀ {c4'' : Cl} {r : Cl × Cl × Cl}, G_166 c1 c8 c10 c11 c13 d B ru 0 [nI (i + 1)] [] [] c4'' = some r → G_166 c1 c8 c10 c11 c13 d B ru 0 [nI i + 1] [] [] c4'' = some r := fun {c4'' r} h => by rw [nI_1]; exact h
    have nx2 : ∀ {r'' : Cl} {m : Cl}, G_252 B2 0 [nI t, 0, nI (i + 1)] [] [] r'' = some m → G_252 B2 0 [nI t, 0, nI i + 1] [] [] r'' = some m := fun {r'' m} h => by rw [nI_1]; exact h
    by_cases q : lv (cA c12 20 B2) i = 0
    · obtain ⟨r, mm, g1, g2, g3⟩ := ih (i + 1) c4' r' (by omega) hK hK2
      refine ⟨r, mm, ?_, ?_, g3⟩
      · rw [G_166]
        exact in_neg (by rw [hH1]; exact nI_ge (by omega) (by omega)) (ob_mk f83 (in_pos q (nx1 g1)))
      · rw [G_252]
        exact ob_mk al_2 (in_neg (by rw [S9 hK2, hH]; exact nI_ge (by omega) (by omega)) (in_pos rfl (ob_mk f224 (ob_mk (v := (-1, r')) (in_pos q rfl) (ob_mk (v := (0, r')) (in_neg (show ¬ (0 : Int32) ≤ -1 by decide) rfl) (nx2 g2))))))
    · have hS2 : SR c1 c8 (cR c10 0 (cR c11 7 B)) (cA r' 20 B2) R D H Q M0 L E K := by rw [S9 hK2]; exact s'
      have hR2 : RuR c4' c13 d ru r' B2 t := RuR_c hK (by rw [(hK2 3 (by decide)).2.2.2.1, (k9 3 (by decide)).2.2.2.1]) (by rw [(hK2 5 (by decide)).2.2.2.1, (k9 5 (by decide)).2.2.2.1]) (by rw [(hK2 6 (by decide)).2.2.2.1, (k9 6 (by decide)).2.2.2.1]) hR
      obtain ⟨x, hx, ⟨⟨v1, d1⟩, g1, g11, g12⟩, ⟨⟨v2, d2⟩, g2, g21, g22⟩⟩ := by_ok (show i < H by omega) t6 hS2 hR2
      dsimp only at g11 g12 g21 g22
      subst g11
      subst g21
      rcases hx with e | ⟨r, hr, e, -⟩
      · obtain ⟨rr, mm, g3, g4, g5⟩ := ih (i + 1) d1 d2 (by omega) (kp_tr hK g12) (kp_tr hK2 g22)
        refine ⟨rr, mm, ?_, ?_, g5⟩
        · rw [G_166]
          exact in_neg (by rw [hH1]; exact nI_ge (by omega) (by omega)) (ob_mk f83 (in_neg q (ob_mk g1 (in_pos e (nx1 g3)))))
        · rw [G_252]
          exact ob_mk al_2 (in_neg (by rw [S9 hK2, hH]; exact nI_ge (by omega) (by omega)) (in_pos rfl (ob_mk f224 (ob_mk (v := (v2, d2)) (in_neg q (ob_mk g2 rfl)) (ob_mk (v := (0, d2)) (in_neg (by dsimp only; rw [e]; decide) rfl) (nx2 g4))))))
      · have nv : ¬ v2 = -1 := fun z => by have := nI_pos (n := r) (by omega); rw [← e, z] at this; exact this (by decide)
        subst e
        have eT : gS (bE 0 (cA c12 20 B2) i) i (nI r) = mS (gS (cA c12 20 B2) i (nI r)) := by rw [gS_bE (by omega), if_pos rfl]
        have T4 : mS (gS (cA c12 20 B2) i (nI r)) 4 = nI (M0 + 1) := by unfold mS; rw [pk_us, gS_un (by omega) (by omega) (by omega) (by omega), n14, nI_1]
        have T0 : ∀ j, j ≠ 4 → j ≠ 5 → (j < 40 ∨ 112 ≤ j) → mS (gS (cA c12 20 B2) i (nI r)) j = cA c12 20 B2 j := fun j y1 y2 y3 => by rw [mS_un y1, gS_un (by omega) (by omega) (by omega) (by omega)]
        obtain ⟨rp, rp1, rp2, rp3, rp4⟩ := pm_ok (M := M0) (p1 := nI i) (p2 := nI r) (p3 := 0) (S' := kp (mS (gS (cA c12 20 B2) i (nI r))) H (112 + 6 * ((M0 + 1) % 12)) R) inj hw n14 (by omega) (fun j y => by
          have := Nat.mod_lt (M0 + 1) (show 0 < 12 by decide)
          rw [kp_out (by omega), T0 j (by omega) (by omega) (by omega)]) (fun c8' E0 s0 => by rw [← eT]; exact pass_head s0 (by omega) (by omega) hr)
        have k2 := kp_tr hK2 g22
        refine ⟨(d1, rp.1, rp.2), sA d2 20 B2 (kp (mS (gS (cA c12 20 B2) i (nI r))) H (112 + 6 * ((M0 + 1) % 12)) R), ?_, ?_, fin rp _ d1 d2 (kp_tr hK g12) k2 rp2 rp3 rp4 (by rw [kp_out (by omega)]; exact T4)⟩
        · rw [G_166]
          exact in_neg (by rw [hH1]; exact nI_ge (by omega) (by omega)) (ob_mk f83 (in_neg q (ob_mk g1 (in_neg nv (ob_mk rp1 rfl)))))
        · have l1 : G_252 B2 1 [] [] [] (sA d2 20 B2 (gS (cA c12 20 B2) i (nI r))) = some (sA d2 20 B2 (kp (mS (gS (cA c12 20 B2) i (nI r))) H (112 + 6 * ((M0 + 1) % 12)) R)) := by
            rw [G_252]
            refine ob_mk (v := sA d2 20 B2 (mS (gS (cA c12 20 B2) i (nI r)))) (f_242.trans (by rw [cA_same, sA_sA]; rfl)) (ob_mk ((f_227 (R := R) (H := H) (M := M0 + 1) (by rw [cA_same, T0 0 (by decide) (by decide) (by decide)]; exact hRr) r6 (by rw [cA_same, T0 2 (by decide) (by decide) (by decide)]; exact hH) h6 (by rw [cA_same]; exact T4) (by omega)).trans (by rw [cA_same, sA_sA])) rfl)
          have l0 : G_252 B2 0 [nI t, 1, nI i + 1] [] [] (sA d2 20 B2 (gS (cA c12 20 B2) i (nI r))) = some (sA d2 20 B2 (kp (mS (gS (cA c12 20 B2) i (nI r))) H (112 + 6 * ((M0 + 1) % 12)) R)) := by
            rw [G_252]
            refine ob_mk al_2 ?_
            rw [cA_same]
            by_cases w : gS (cA c12 20 B2) i (nI r) 2 ≤ nI i + 1
            · exact in_pos w l1
            · exact in_neg w (in_neg (by decide) l1)
          rw [G_252]
          refine ob_mk al_2 (in_neg (by rw [S9 hK2, hH]; exact nI_ge (by omega) (by omega)) (in_pos rfl (ob_mk f224 (ob_mk (v := (nI r, d2)) (in_neg q (ob_mk g2 rfl)) (ob_mk (v := (1, sA d2 20 B2 (gS (cA c12 20 B2) i (nI r)))) (in_pos (nI_pos' (by omega)) (ob_mk (v := sA d2 20 B2 (gS (cA c12 20 B2) i (nI r))) ((f_244 (by omega)).trans (by dsimp only; rw [S9 k2]; rfl)) rfl)) l0)))))
/-- one minute by a rule, both -/
theorem mr_ok {t ru : Nat} (inj : ∀ i j, i ≤ 20 → j ≤ 20 → A i = A j → i = j) (t6 : t < 6) (h : WM c1 c8 c10 c12 B2 (cR c11 7 B) A X R D H Q L K) (h4 : cA c12 20 B2 4 = nI M) (hM : M + 1 ≤ 9999) (hR : RuR c4 c13 d ru c12 B2 t) : ∃ r m, F_166 c1 c4 c8 c10 c11 c13 d B ru = some r ∧ (F_239 c12 B2 >>= fun r11 => F_252 r11 B2 (nI t)) = some m ∧ MrP c1 c4 c8 c10 c12 B2 (cR c11 7 B) A X R D H Q L K M r m := by
  obtain ⟨U, hU, hw⟩ := id h
  obtain ⟨o, o20, b1, b2, b3, b4⟩ := hw.2.2.2.2.1
  obtain ⟨r, m, g1, g2, g3⟩ := mr_loop inj t6 hw h4 hM hR rfl H 0 c4 _ (by omega) (kp_rf _ _) (kp_rf _ _)
  exact ⟨r, m, g1, ob_mk (f_239 hU b3) g2, g3⟩
theorem run_loop {t ru n : Nat} (inj : ∀ i j, i ≤ 20 → j ≤ 20 → A i = A j → i = j) (t6 : t < 6) (n60 : n ≤ 60) (hq : cQ c11 5 B t = some ru) (hR : RuR c4 c13 d ru c12 B2 t) : ∀ (m i : Nat) (c4' c8' c10' c12' : Cl), i + m = n → Kp [3] c4 c4' → WM c1 c8' c10' c12' B2 (cR c11 7 B) A X R D H Q L K → (∀ a, (∀ i, i ≤ 20 → a ≠ A i) → Sm8 c8 a c8' a) → Oth (cR c11 7 B) c10 c10' → Kp [17, 18, 19, 20, 22, 23] c12 c12' → cA c12' 20 B2 4 = nI (M + i) → M + n ≤ 9999 → ∃ rx rm, G_137 c1 c7 c11 c13 d B 0 [nI t, nI n, nI i] [] [] c4' c8' c10' = some rx ∧ G_253 B2 0 [nI t, nI n, nI i] [] [] c12' = some rm ∧ rx.1 = rm.1 ∧ Kp [3] c4 rx.2.1 ∧ rx.2.2.1 = sI c7 1 (cR c11 12 B) 0 ∧ WM c1 rx.2.2.2.1 rx.2.2.2.2 rm.2 B2 (cR c11 7 B) A X R D H Q L K ∧ (∀ a, (∀ i, i ≤ 20 → a ≠ A i) → Sm8 c8 a rx.2.2.2.1 a) ∧ Oth (cR c11 7 B) c10 rx.2.2.2.2 ∧ Kp [17, 18, 19, 20, 22, 23] c12 rm.2
  | 0, i, c4', c8', c10', c12', hi, k1, k2, k3, k4, k5, k6, k7 => by
    have : i = n := by omega
    subst this
    obtain ⟨U, hU, a1, -, -, ⟨M0, E, m9, s⟩, -⟩ := id k2
    refine ⟨(nI (M + i), c4', sI c7 1 (cR c11 12 B) 0, c8', c10'), (nI (M + i), c12'), ?_, ?_, rfl, k1, rfl, k2, k3, k4, k5⟩
    · rw [G_137]
      refine in_pos (nI_le (Nat.le_refl _) (by omega)) (ob_mk rfl ?_)
      rw [a1, s.1.1.2.2.2.2.1, ← s.1.1.2.2.2.2.2.1, k6]
    · rw [G_253]
      exact in_pos (nI_le (Nat.le_refl _) (by omega)) (ob_mk al_4 (by rw [k6]))
  | m + 1, i, c4', c8', c10', c12', hi, k1, k2, k3, k4, k5, k6, k7 => by
    obtain ⟨r, mm, g1, g2, e1, e2, e3, e4, e5, e6⟩ := mr_ok inj t6 k2 k6 (by omega) (RuR_c k1 (by rw [(k5 3 (by decide)).2.2.2.1]) (by rw [(k5 5 (by decide)).2.2.2.1]) (by rw [(k5 6 (by decide)).2.2.2.1]) hR)
    obtain ⟨rx, rm, f1, f2, f3⟩ := run_loop inj t6 n60 hq hR m (i + 1) r.1 r.2.1 r.2.2 mm (by omega) (kp_tr k1 e1) e2 (fun a ha => Sm8.tr (k3 a ha) (e3 a ha)) (oth_tr k4 e4) (kp_tr k5 e5) e6 k7
    refine ⟨rx, rm, ?_, ?_, f3⟩
    · rw [G_137]
      refine in_neg (nI_ge (by omega) (by omega)) (ob_mk (v := some ru) ((ldq_ok (by omega) (by decide)).trans (by rw [hq])) (ob_mk rfl (ob_mk g1 ?_)))
      rw [nI_1]; exact f1
    · rw [G_253]
      obtain ⟨y, y1, y2⟩ := ob_some g2
      refine in_neg (nI_ge (by omega) (by omega)) (ob_mk y1 (ob_mk y2 ?_))
      rw [nI_1]; exact f2
theorem q_run {p1 p2 : Int32} (inj : ∀ i j, i ≤ 20 → j ≤ 20 → A i = A j → i = j) (h : WM c1 c8 c10 c12 B2 (cR c11 7 B) A X R D H Q L K) (hR : RR c4 c11 c12 c13 d B B2) : ∃ rx rm, F_137 c1 c4 c7 c8 c10 c11 c13 d B p1 p2 = some rx ∧ F_253 c12 B2 p1 p2 = some rm ∧ rx.1 = rm.1 ∧ Kp [3] c4 rx.2.1 ∧ ((rx.2.2.1 = c7 ∧ cA rm.2 20 B2 = cA c12 20 B2) ∨ rx.2.2.1 = sI c7 1 (cR c11 12 B) 0) ∧ WM c1 rx.2.2.2.1 rx.2.2.2.2 rm.2 B2 (cR c11 7 B) A X R D H Q L K ∧ (∀ a, (∀ i, i ≤ 20 → a ≠ A i) → Sm8 c8 a rx.2.2.2.1 a) ∧ Oth (cR c11 7 B) c10 rx.2.2.2.2 ∧ Kp [17, 18, 19, 20, 22, 23] c12 rm.2 := by
  obtain ⟨U, hU, a1, a2, a3, ⟨M, E, m9, s⟩, -⟩ := id h
  obtain ⟨N, n6, r1, r2, r3⟩ := id hR
  have s' := s
  rw [← a1] at s'
  have hN := s'.1.1
  obtain ⟨-, -, -, -, n13, n14, n15⟩ := id s.1.1
  have f1 := f_163 (p := p1) n6 r1 (fun i q => by obtain ⟨ru, e, -⟩ := r3 i q; exact ⟨ru, e⟩)
  have e60 : F_170 p2.toInt64 1 60 = some (if p2 < 1 then 0 else if 60 < p2 then 0 else 1) := f_170 p2 1 60
  have same : ∀ v : Int32, ((v, c4, c7, c8, c10) : Int32 × Cl × Cl × Cl × Cl).1 = ((v, c12) : Int32 × Cl).1 ∧ Kp [3] c4 c4 ∧ ((c7 = c7 ∧ cA c12 20 B2 = cA c12 20 B2) ∨ c7 = sI c7 1 (cR c11 12 B) 0) ∧ WM c1 c8 c10 c12 B2 (cR c11 7 B) A X R D H Q L K ∧ (∀ a, (∀ i, i ≤ 20 → a ≠ A i) → Sm8 c8 a c8 a) ∧ Oth (cR c11 7 B) c10 c10 ∧ Kp [17, 18, 19, 20, 22, 23] c12 c12 := fun v => ⟨rfl, kp_rf _ _, Or.inl ⟨rfl, rfl⟩, h, fun a _ => Sm8.rf _ _, oth_rf _ _, kp_rf _ _⟩
  unfold F_137 F_253
  by_cases q : hh1 R = 0
  · exact ⟨_, _, ob_mk (f_157 hN) (in_pos q rfl), ob_mk (f_218 hN) (in_pos q rfl), same _⟩
  rcases is1_of (n := N) (p := p1) (by omega) with z | ⟨z, t, ht, rfl⟩
  · exact ⟨_, _, ob_mk (f_157 hN) (in_neg q (ob_mk f1 (in_pos z rfl))), ob_mk (f_218 hN) (in_neg q (ob_mk (f_213 r2) (in_pos z rfl))), same _⟩
  have z0 : ¬ is1 N (nI t) = 0 := by rw [z]; decide
  by_cases w1 : p2 < 1
  · rw [if_pos w1] at e60
    exact ⟨_, _, ob_mk (f_157 hN) (in_neg q (ob_mk f1 (in_neg z0 (in_pos w1 rfl)))), ob_mk (f_218 hN) (in_neg q (ob_mk (f_213 r2) (in_neg z0 (ob_mk e60 (in_pos rfl rfl))))), same _⟩
  rw [if_neg w1] at e60
  by_cases w2 : 60 < p2
  · rw [if_pos w2] at e60
    exact ⟨_, _, ob_mk (f_157 hN) (in_neg q (ob_mk f1 (in_neg z0 (in_neg w1 (in_pos w2 rfl))))), ob_mk (f_218 hN) (in_neg q (ob_mk (f_213 r2) (in_neg z0 (ob_mk e60 (in_pos rfl rfl))))), same _⟩
  rw [if_neg w2] at e60
  obtain ⟨n, hn, rfl⟩ : ∃ n, n ≤ 60 ∧ p2 = nI n := by
    refine nI_of2 (M := 60) (n := 60) rfl (fun z => w1 ?_) (Int32.not_lt.mp w2)
    have a1 := Int32.lt_iff_toInt_lt.mp z
    exact Int32.lt_iff_toInt_lt.mpr (by have e0 : (0 : Int32).toInt = 0 := rfl; have e1 : (1 : Int32).toInt = 1 := rfl; omega)
  have g3 := f_165 (m := n) (c11 := c11) (B := B) a1 n13 n15 (by omega)
  by_cases y : M + n ≤ 9999
  · rw [if_pos y] at g3
    obtain ⟨ru, u1, u2⟩ := r3 t ht
    obtain ⟨rx, rm, v1, v2, v3, v4, v5, v6⟩ := run_loop (c7 := c7) (c8 := c8) (c10 := c10) (M := M) inj (by omega) hn u1 u2 n 0 c4 c8 c10 c12 (by omega) (kp_rf _ _) h (fun a _ => Sm8.rf _ _) (oth_rf _ _) (kp_rf _ _) n14 y
    refine ⟨rx, rm, ob_mk (f_157 hN) (in_neg q (ob_mk f1 (in_neg z0 (in_neg w1 (in_neg w2 (ob_mk g3 (in_neg (by decide) v1))))))), ob_mk (f_218 hN) (in_neg q (ob_mk (f_213 r2) (in_neg z0 (ob_mk e60 (in_neg (by decide) (ob_mk al_4 (in_pos ?_ v2))))))), v3, v4, Or.inr v5, v6⟩
    rw [n14, nI_add]; exact nI_le (a := M + n) (b := 9999) y (by decide)
  · rw [if_neg y] at g3
    refine ⟨_, (-1, c12), ob_mk (f_157 hN) (in_neg q (ob_mk f1 (in_neg z0 (in_neg w1 (in_neg w2 (ob_mk g3 (in_pos rfl rfl))))))), ob_mk (f_218 hN) (in_neg q (ob_mk (f_213 r2) (in_neg z0 (ob_mk e60 (in_neg (by decide) (ob_mk al_4 (in_neg ?_ rfl))))))), same _⟩
    rw [n14, nI_add]; exact nI_ge (a := 9999) (b := M + n) (by omega) (by omega)
end Run
