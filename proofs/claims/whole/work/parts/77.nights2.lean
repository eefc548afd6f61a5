section Nights2
variable {c1 c8 c10 c11 c12 : Cl} {B B2 : Nat} {A : Nat → Nat} {X R D H Q M L E : Nat} {K : Nat → Nat}
/-- what holds between nights -/
def NI (c8 c11 c12 : Cl) (B B2 : Nat) (c8' c11' c12' : Cl) : Prop := Oth (cR c11 9 B) c8 c8' ∧ Kp [10] c11 c11' ∧ Kp [20, 45, 46] c12 c12' ∧ (∀ j, j < 221 → cA c12' 45 B2 j = cA c12 20 B2 j) ∧ ∃ n, n < 2147483648 ∧ cJ c11' 10 B = lN n ∧ cJ c12' 46 B2 = lN n
theorem nm_loop {n s : Nat} {a1 p4 p5 y : Int32} (n100 : n ≤ 100) (hs : s < Q) (mm : M ≤ 9999) : ∀ (m i : Nat) (f g : Int32) (c8' c11' c12' : Cl) (E : Nat), i + m = n → NI c8 c11 c12 B B2 c8' c11' c12' → SR c1 c8' (cR c11 9 B) (cA c12' 20 B2) R D H Q (M + i) L E K → ∃ f' g' c8'' c11'' c12'', G_152 c1 c10 B 1 [a1, nI n, nI s, p4, p5, f, g, y, nI i] [] [] c8' c11' = G_152 c1 c10 B 0 [a1, nI n, nI s, p4, p5, f', g', y + 1] [] [] c8'' c11'' ∧ G_295 B2 2 [a1, nI n, nI s, p4, p5, f, g, y, nI i] [] [] c12' = G_295 B2 3 [a1, nI n, nI s, p4, p5, f', g', y, 0] [] [] c12'' ∧ NI c8 c11 c12 B B2 c8'' c11'' c12''
  | 0, i, f, g, c8', c11', c12', E, hi, hI, hS => by
    have : i = n := by omega
    subst this
    refine ⟨f, g, c8', c11', c12', ?_, ?_, hI⟩
    · conv => lhs; rw [G_152]
      rw [if_pos (nI_le (Nat.le_refl _) (by omega))]
    · conv => lhs; rw [G_295]
      rw [if_pos (nI_le (Nat.le_refl _) (by omega))]
  | m + 1, i, f, g, c8', c11', c12', E, hi, hI, hS => by
    obtain ⟨i1, i2, i3, i4, k, hk, i5, i6⟩ := hI
    have r9 : cR c11' 9 B = cR c11 9 B := by rw [(i2 9 (by decide)).2.2.1]
    obtain ⟨x, mm', e1, e2, d1, d2, d3, d4, ⟨k', hk', d5, d6⟩, d7, ⟨E', d8⟩, d9⟩ := dm_ok (c11 := c11') (B := B) (by rw [r9]; exact hS) (by omega) i5 i6 hk
    rw [r9] at d2 d7 d8
    obtain ⟨⟨-, hR, r6⟩, -, ⟨-, hH, h6⟩, ⟨-, -, q6⟩, m1, m2, m3⟩ := id d8.1.1
    have r92 : cR x.2.2 9 B = cR c11 9 B := by rw [(d3 9 (by decide)).2.2.1]; exact r9
    have f97 : F_97 c1 x.2.1 (cR x.2.2 9 B) (nI s) = some (su (fe1 (cA mm'.2 20 B2) K H (M + i + 1) s) R) := by
      rw [r92]; exact f_97 (by omega) d8.1.1 d8.c (d8.1.2.2.1 s hs)
    have f231 : F_231 mm'.2 B2 (nI s) = some (su (fe1 (cA mm'.2 20 B2) K H (M + i + 1) s) R) := f_231 hH h6 m2 (by omega) hR r6 (by omega) (fun r hr => ⟨(d8.c.2.2.2 r hr).2.1, by have := (d8.c.2.2.2 r hr).2.2; omega⟩)
    obtain ⟨v, hv⟩ : ∃ v : Int32, v = (if su (fe1 (cA mm'.2 20 B2) K H (M + i + 1) s) R < p4 then 0 else 1) := ⟨_, rfl⟩
    have tv : ((if su (fe1 (cA mm'.2 20 B2) K H (M + i + 1) s) R < p4 then some 0 else some 1) : Option Int32) = some v := by rw [hv]; split <;> rfl
    obtain ⟨f', g', c8'', c11'', c12'', z1, z2, z3⟩ := nm_loop n100 hs mm m (i + 1) (f + v) (g + x.1) x.2.1 x.2.2 mm'.2 E' (by omega) ⟨oth_tr i1 d2, kp_tr i2 d3, kp_tr i3 (kp_wd d4 (by decide)), fun j q => by rw [(d4 45 (by decide)).2.2.2.1]; exact i4 j q, k', hk', d5, d6⟩ d8
    refine ⟨f', g', c8'', c11'', c12'', ?_, ?_, z3⟩
    · rw [← z1]
      conv => lhs; rw [G_152]
      rw [if_neg (nI_ge (by omega) (by omega)), e1]
      show (F_97 c1 x.2.1 (cR x.2.2 9 B) (nI s) >>= fun r24 => ((if r24 < p4 then some 0 else some 1) : Option (Int32)) >>= fun (t25 : Int32) => G_152 c1 c10 B 1 [a1, nI n, nI s, p4, p5, f + t25, g + x.1, y, nI i + 1] [] [] x.2.1 x.2.2) = _
      rw [f97]
      show (((if su (fe1 (cA mm'.2 20 B2) K H (M + i + 1) s) R < p4 then some 0 else some 1) : Option Int32) >>= fun (t25 : Int32) => G_152 c1 c10 B 1 [a1, nI n, nI s, p4, p5, f + t25, g + x.1, y, nI i + 1] [] [] x.2.1 x.2.2) = _
      rw [tv, nI_1]
      rfl
    · rw [← z2, d1]
      conv => lhs; rw [G_295]
      rw [if_neg (nI_ge (by omega) (by omega)), e2]
      show (F_231 mm'.2 B2 (nI s) >>= fun r21 => ((if r21 < p4 then some 0 else some 1) : Option (Int32)) >>= fun (t22 : Int32) => G_295 B2 2 [a1, nI n, nI s, p4, p5, f + t22, g + mm'.1, y, nI i + 1] [] [] mm'.2) = _
      rw [f231]
      show (((if su (fe1 (cA mm'.2 20 B2) K H (M + i + 1) s) R < p4 then some 0 else some 1) : Option Int32) >>= fun (t22 : Int32) => G_295 B2 2 [a1, nI n, nI s, p4, p5, f + t22, g + mm'.1, y, nI i + 1] [] [] mm'.2) = _
      rw [tv, nI_1]
      rfl
theorem lp295a {a1 a2 a3 a4 a5 a6 a7 : Int32} {c : Cl} : ∀ m i, i + m = 221 → G_295 B2 0 [a1, a2, a3, a4, a5, a6, a7, nI i] [] [] (sA c 45 B2 (pt (cA c 45 B2) 0 (cA c 20 B2) i)) = G_295 B2 1 [a1, a2, a3, a4, a5, a6, a7, 0] [] [] (sA c 45 B2 (pt (cA c 45 B2) 0 (cA c 20 B2) 221))
  | 0, i, hi => by
    have : i = 221 := by omega
    subst this
    conv => lhs; rw [G_295]
    rw [if_pos (show (221 : Int32) ≤ nI 221 from nI_le (a := 221) (b := 221) (Nat.le_refl _) (by decide))]
  | m + 1, i, hi => by
    have ih := lp295a (a1 := a1) (a2 := a2) (a3 := a3) (a4 := a4) (a5 := a5) (a6 := a6) (a7 := a7) (c := c) m (i + 1) (by omega)
    have e := pt_up (W := cA c 45 B2) (w := 0) (f := cA c 20 B2) (i := i)
    rw [Nat.zero_add] at e
    rw [← ih]
    conv => lhs; rw [G_295]
    rw [if_neg (show ¬ (221 : Int32) ≤ nI i from nI_ge (a := i) (b := 221) (by omega) (by decide)), cA_ne (show 20 ≠ 45 by decide), ald_ok (show i < 221 by omega) (by decide)]
    show ast _ 45 B2 221 (nI i) (cA c 20 B2 i) >>= (fun c12_14 => G_295 B2 0 [a1, a2, a3, a4, a5, a6, a7, nI i + 1] [] [] c12_14) = _
    rw [ast_ok (show i < 221 by omega) (by decide), cA_same, sA_sA, e, nI_1]
    rfl
theorem lp295b {a1 a2 a3 a4 a5 a6 a7 y : Int32} {c : Cl} : ∀ m i, i + m = 221 → G_295 B2 3 [a1, a2, a3, a4, a5, a6, a7, y, nI i] [] [] (sA c 20 B2 (pt (cA c 20 B2) 0 (cA c 45 B2) i)) = G_295 B2 1 [a1, a2, a3, a4, a5, a6, a7, y + 1] [] [] (sA c 20 B2 (pt (cA c 20 B2) 0 (cA c 45 B2) 221))
  | 0, i, hi => by
    have : i = 221 := by omega
    subst this
    conv => lhs; rw [G_295]
    rw [if_pos (show (221 : Int32) ≤ nI 221 from nI_le (a := 221) (b := 221) (Nat.le_refl _) (by decide))]
  | m + 1, i, hi => by
    have ih := lp295b (a1 := a1) (a2 := a2) (a3 := a3) (a4 := a4) (a5 := a5) (a6 := a6) (a7 := a7) (y := y) (c := c) m (i + 1) (by omega)
    have e := pt_up (W := cA c 20 B2) (w := 0) (f := cA c 45 B2) (i := i)
    rw [Nat.zero_add] at e
    rw [← ih]
    conv => lhs; rw [G_295]
    rw [if_neg (show ¬ (221 : Int32) ≤ nI i from nI_ge (a := i) (b := 221) (by omega) (by decide)), cA_ne (show 45 ≠ 20 by decide), ald_ok (show i < 221 by omega) (by decide)]
    show ast _ 20 B2 221 (nI i) (cA c 45 B2 i) >>= (fun c12_27 => G_295 B2 3 [a1, a2, a3, a4, a5, a6, a7, y, nI i + 1] [] [] c12_27) = _
    rw [ast_ok (show i < 221 by omega) (by decide), cA_same, sA_sA, e, nI_1]
    rfl
theorem nn_loop {mN n s : Nat} {p4 p5 : Int32} (m20 : mN ≤ 20) (n100 : n ≤ 100) (hs : s < Q) (mm : M ≤ 9999) (nT : cR c10 0 (cR c11 7 B) ≠ cR c11 9 B) (hS : SR c1 c8 (cR c10 0 (cR c11 7 B)) (cA c12 20 B2) R D H Q M L E K) : ∀ (m i : Nat) (f g : Int32) (c8' c11' c12' : Cl), i + m = mN → NI c8 c11 c12 B B2 c8' c11' c12' → (∀ j, j < 221 → cA c12' 20 B2 j = cA c12 20 B2 j) → ∃ v c8'' c11'' c12'', G_152 c1 c10 B 0 [nI mN, nI n, nI s, p4, p5, f, g, nI i] [] [] c8' c11' = some (v, c8'', c11'') ∧ G_295 B2 1 [nI mN, nI n, nI s, p4, p5, f, g, nI i] [] [] c12' = some (v, c12'') ∧ NI c8 c11 c12 B B2 c8'' c11'' c12'' ∧ ∀ j, j < 221 → cA c12'' 20 B2 j = cA c12 20 B2 j
  | 0, i, f, g, c8', c11', c12', hi, hI, h20 => by
    have : i = mN := by omega
    subst this
    refine ⟨if p5 = 0 then f else g, c8', c11', c12', ?_, ?_, hI, h20⟩
    · rw [G_152]
      refine in_pos (nI_le (Nat.le_refl _) (by omega)) (ob_mk (v := if p5 = 0 then f else g) ?_ rfl)
      split <;> rfl
    · rw [G_295]
      refine in_pos (nI_le (Nat.le_refl _) (by omega)) (ob_mk (v := if p5 = 0 then f else g) ?_ rfl)
      split <;> rfl
  | m + 1, i, f, g, c8', c11', c12', hi, hI, h20 => by
    obtain ⟨i1, i2, i3, i4, k, hk, i5, i6⟩ := id hI
    have r9 : cR c11' 9 B = cR c11 9 B := by rw [(i2 9 (by decide)).2.2.1]
    have r7 : cR c11' 7 B = cR c11 7 B := by rw [(i2 7 (by decide)).2.2.1]
    obtain ⟨c2, e1, e2, e3⟩ := f_82 (c8 := c8') (a := cR c11 9 B) (b := cR c10 0 (cR c11 7 B)) nT
    have hS2 : SR c1 c2 (cR c11 9 B) (cA c12' 20 B2) R D H Q (M + 0) L E K := SR_c (Sm8.tr (oth_sm i1 nT) e2) (Sm1.rf _ _) (fun j q => h20 j (by omega)) hS
    obtain ⟨f', g', c8'', c11'', c12'', z1, z2, z3⟩ := nm_loop (c10 := c10) (a1 := nI mN) (p4 := p4) (p5 := p5) (y := nI i) n100 hs mm n 0 f g c2 c11' c12' E (by omega) ⟨oth_tr i1 e3, i2, i3, i4, k, hk, i5, i6⟩ hS2
    obtain ⟨y1, y2, y3, y4, y5⟩ := id z3
    have l3 := lp295b (B2 := B2) (a1 := nI mN) (a2 := nI n) (a3 := nI s) (a4 := p4) (a5 := p5) (a6 := f') (a7 := g') (y := nI i) (c := c12'') 221 0 rfl
    rw [pt_0, sA_id] at l3
    obtain ⟨c3, hc3⟩ : ∃ c3, c3 = sA c12'' 20 B2 (pt (cA c12'' 20 B2) 0 (cA c12'' 45 B2) 221) := ⟨_, rfl⟩
    rw [← hc3] at l3
    have k3 : Kp [20] c12'' c3 := by rw [hc3]; exact kp_A (by decide)
    obtain ⟨v, c4, c5, c6, w1, w2, w3, w4⟩ := nn_loop m20 n100 hs mm nT hS m (i + 1) f' g' c8'' c11'' c3 (by omega) ⟨y1, y2, kp_tr y3 (kp_wd k3 (by decide)), fun j q => by rw [(k3 45 (by decide)).2.2.2.1]; exact y4 j q, by obtain ⟨n', a, b, c⟩ := y5; exact ⟨n', a, b, by rw [(k3 46 (by decide)).2.1]; exact c⟩⟩ (fun j q => by
      rw [hc3, cA_same]; unfold pt; rw [if_pos ⟨by omega, by omega⟩, Nat.sub_zero]; exact y4 j q)
    refine ⟨v, c4, c5, c6, ?_, ?_, w3, w4⟩
    · rw [G_152]
      refine in_neg (nI_ge (by omega) (by omega)) ?_
      rw [r9, r7]
      refine ob_mk e1 ?_
      refine Eq.trans z1 ?_
      rw [nI_1]; exact w1
    · rw [G_295]
      refine in_neg (nI_ge (by omega) (by omega)) ?_
      refine Eq.trans z2 (Eq.trans l3 ?_)
      rw [nI_1]; exact w2
theorem rng {p lo hi : Int32} {n : Nat} (h0 : ¬ lo < 0) (hh : hi.toInt = n) (h : ¬ (if p < lo then (0 : Int32) else if hi < p then 0 else 1) = 0) : ¬ p < lo ∧ ¬ hi < p ∧ ∃ k, k ≤ n ∧ p = nI k := by
  by_cases q : p < lo
  · rw [if_pos q] at h; exact absurd rfl h
  · rw [if_neg q] at h
    by_cases w : hi < p
    · rw [if_pos w] at h; exact absurd rfl h
    · refine ⟨q, w, nI_of2 hh (fun z => q ?_) (Int32.not_lt.mp w)⟩
      have a1 := Int32.lt_iff_toInt_lt.mp z
      have a2 := Int32.not_lt.mp h0
      have a3 := Int32.le_iff_toInt_le.mp a2
      exact Int32.lt_iff_toInt_lt.mpr (by omega)
theorem q_nights {p1 p2 p3 p4 p5 : Int32} (h : WM c1 c8 c10 c12 B2 (cR c11 7 B) A X R D H Q L K) (nT : A 0 ≠ cR c11 9 B) : ∃ rx rm, F_152 c1 c8 c10 c11 B p1 p2 p3 p4 p5 = some rx ∧ F_295 c12 B2 p1 p2 p3 p4 p5 = some rm ∧ rx.1 = rm.1 ∧ Oth (cR c11 9 B) c8 rx.2.1 ∧ Kp [10] c11 rx.2.2 ∧ Kp [20, 45, 46] c12 rm.2 ∧ ∀ j, j < 221 → cA rm.2 20 B2 j = cA c12 20 B2 j := by
  obtain ⟨U, hU, a1, a2, a3, ⟨M, E, m9, s⟩, -, a5, -⟩ := id h
  have s' := s
  rw [← a1] at s' nT
  have hN := s'.1.1
  have q6 := hN.2.2.2.1.2.2
  have same : ∀ v : Int32, ((v, c8, c11) : Int32 × Cl × Cl).1 = ((v, c12) : Int32 × Cl).1 ∧ Oth (cR c11 9 B) c8 c8 ∧ Kp [10] c11 c11 ∧ Kp [20, 45, 46] c12 c12 ∧ ∀ j, j < 221 → cA c12 20 B2 j = cA c12 20 B2 j := fun v => ⟨rfl, oth_rf _ _, kp_rf _ _, kp_rf _ _, fun _ _ => rfl⟩
  have e1 : F_170 p1.toInt64 1 20 = some (if p1 < 1 then 0 else if 20 < p1 then 0 else 1) := f_170 p1 1 20
  have e2 : F_170 p2.toInt64 1 100 = some (if p2 < 1 then 0 else if 100 < p2 then 0 else 1) := f_170 p2 1 100
  have e4 : F_170 p4.toInt64 0 99 = some (if p4 < 0 then 0 else if 99 < p4 then 0 else 1) := f_170 p4 0 99
  have e5 : F_170 p5.toInt64 0 1 = some (if p5 < 0 then 0 else if 1 < p5 then 0 else 1) := f_170 p5 0 1
  have e164 : F_164 p4 = some (if p4 < 0 then 0 else if 99 < p4 then 0 else 1) := by
    unfold F_164
    by_cases w : p4 < 0
    · rw [if_pos w, if_pos w]; rfl
    · rw [if_neg w, if_neg w]
      by_cases w2 : 99 < p4
      · rw [if_pos w2, if_pos w2]; rfl
      · rw [if_neg w2, if_neg w2]; rfl
  have m1 : ∀ {c : Int32} {x y : Option (Int32 × Cl)}, x = some (-1, c12) → y = some (-1, c12) → (if c = 0 then x else y) = some (-1, c12) := fun {c x y} hx hy => by
    by_cases w : c = 0
    · rw [if_pos w]; exact hx
    · rw [if_neg w]; exact hy
  unfold F_152 F_295
  by_cases t1 : (if p1 < 1 then (0 : Int32) else if 20 < p1 then 0 else 1) = 0
  · refine ⟨(-1, c8, c11), (-1, c12), ?_, ob_mk (f_222 hN) (m1 rfl (ob_mk e1 (in_pos t1 rfl))), same _⟩
    by_cases w : p1 < 1
    · exact in_pos w rfl
    · rw [if_neg w] at t1
      by_cases w2 : 20 < p1
      · exact in_neg w (in_pos w2 rfl)
      · rw [if_neg w2] at t1; exact absurd t1 (by decide)
  obtain ⟨u1, u2, k1, k20, rfl⟩ := rng (lo := 1) (hi := 20) (n := 20) (by decide) rfl t1
  by_cases t2 : (if p2 < 1 then (0 : Int32) else if 100 < p2 then 0 else 1) = 0
  · refine ⟨(-1, c8, c11), (-1, c12), in_neg u1 (in_neg u2 ?_), ob_mk (f_222 hN) (m1 rfl (ob_mk e1 (in_neg t1 (ob_mk e2 (in_pos t2 rfl))))), same _⟩
    by_cases w : p2 < 1
    · exact in_pos w rfl
    · rw [if_neg w] at t2
      by_cases w2 : 100 < p2
      · exact in_neg w (in_pos w2 rfl)
      · rw [if_neg w2] at t2; exact absurd t2 (by decide)
  obtain ⟨v1, v2, k2, k100, rfl⟩ := rng (lo := 1) (hi := 100) (n := 100) (by decide) rfl t2
  rcases is1_of (n := Q) (p := p3) (by omega) with q | ⟨q, i, hi, rfl⟩
  · exact ⟨(-1, c8, c11), (-1, c12), in_neg u1 (in_neg u2 (in_neg v1 (in_neg v2 (ob_mk (f_162 hN) (in_pos q rfl))))), ob_mk (f_222 hN) (in_pos q rfl), same _⟩
  have q0 : ¬ is1 Q (nI i) = 0 := by rw [q]; decide
  by_cases t4 : (if p4 < 0 then (0 : Int32) else if 99 < p4 then 0 else 1) = 0
  · exact ⟨(-1, c8, c11), (-1, c12), in_neg u1 (in_neg u2 (in_neg v1 (in_neg v2 (ob_mk (f_162 hN) (in_neg q0 (ob_mk e164 (in_pos t4 rfl))))))), ob_mk (f_222 hN) (in_neg q0 (ob_mk e1 (in_neg t1 (ob_mk e2 (in_neg t2 (ob_mk e4 (in_pos t4 rfl))))))), same _⟩
  by_cases t5 : (if p5 < 0 then (0 : Int32) else if 1 < p5 then 0 else 1) = 0
  · refine ⟨(-1, c8, c11), (-1, c12), in_neg u1 (in_neg u2 (in_neg v1 (in_neg v2 (ob_mk (f_162 hN) (in_neg q0 (ob_mk e164 (in_neg t4 ?_))))))), ob_mk (f_222 hN) (in_neg q0 (ob_mk e1 (in_neg t1 (ob_mk e2 (in_neg t2 (ob_mk e4 (in_neg t4 (ob_mk e5 (in_pos t5 rfl))))))))), same _⟩
    by_cases w : p5 < 0
    · exact in_pos w rfl
    · rw [if_neg w] at t5
      by_cases w2 : 1 < p5
      · exact in_neg w (in_neg (Int32.not_le.mpr w2) rfl)
      · rw [if_neg w2] at t5; exact absurd t5 (by decide)
  obtain ⟨y1, y2, -⟩ := rng (lo := 0) (hi := 1) (n := 1) (by decide) rfl t5
  obtain ⟨c2, hc2⟩ : ∃ c2, c2 = sJ c12 46 B2 ((cI c12 21 B2 : Int32).toInt64) := ⟨_, rfl⟩
  obtain ⟨d2, hd2⟩ : ∃ d2, d2 = sJ c11 10 B ((cI c10 4 (cR c11 7 B) : Int32).toInt64) := ⟨_, rfl⟩
  obtain ⟨xk, hxk, exk⟩ := nI_of a5.2
  have x1 : (cI c10 4 (cR c11 7 B) : Int32).toInt64 = lN xk := by rw [a5.1, exk, nI_l hxk]
  have x2 : (cI c12 21 B2 : Int32).toInt64 = lN xk := by rw [exk, nI_l hxk]
  have l0 := lp295a (B2 := B2) (a1 := nI k1) (a2 := nI k2) (a3 := nI i) (a4 := p4) (a5 := p5) (a6 := 0) (a7 := 0) (c := c2) 221 0 rfl
  rw [pt_0, sA_id] at l0
  obtain ⟨c3, hc3⟩ : ∃ c3, c3 = sA c2 45 B2 (pt (cA c2 45 B2) 0 (cA c2 20 B2) 221) := ⟨_, rfl⟩
  rw [← hc3] at l0
  have j45 : ∀ j, j < 221 → cA c3 45 B2 j = cA c12 20 B2 j := fun j q => by
    rw [hc3, cA_same]; unfold pt; rw [if_pos ⟨by omega, by omega⟩, Nat.sub_zero, hc2, cA_sJ]
  obtain ⟨v, c8'', c11'', c12'', w1, w2, w3, w4⟩ := nn_loop (c8 := c8) (c11 := c11) (c12 := c12) (p4 := p4) (p5 := p5) k20 k100 hi m9 nT s' k1 0 0 0 c8 d2 c3 (by omega) ⟨oth_rf _ _, by rw [hd2]; exact kp_J (by decide), by rw [hc3, hc2]; exact kp_tr (kp_J (by decide)) (kp_A (by decide)), j45, xk, by omega, by rw [hd2, cJ_sJ, if_pos ⟨rfl, rfl⟩, x1], by rw [hc3, cJ_sA, hc2, cJ_sJ, if_pos ⟨rfl, rfl⟩, x2]⟩ (fun j q => by rw [hc3, cA_ne (by decide), hc2, cA_sJ])
  obtain ⟨z1, z2, z3, -⟩ := w3
  refine ⟨(v, c8'', c11''), (v, c12''), in_neg u1 (in_neg u2 (in_neg v1 (in_neg v2 (ob_mk (f_162 hN) (in_neg q0 (ob_mk e164 (in_neg t4 (in_neg y1 (in_pos (Int32.not_lt.mp y2) (ob_mk rfl ?_)))))))))), ob_mk (f_222 hN) (in_neg q0 (ob_mk e1 (in_neg t1 (ob_mk e2 (in_neg t2 (ob_mk e4 (in_neg t4 (ob_mk e5 (in_neg t5 (ob_mk rfl ?_)))))))))), rfl, z1, z2, z3, w4⟩
  · rw [← hd2]; exact w1
  · rw [← hc2]; exact l0.trans w2
end Nights2
