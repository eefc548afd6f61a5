/-! ===== a rule of the class and of the reference: where a head would go ===== -/
/-- where a clause begins -/
def cs (e : Nat → Nat) (c : Nat) : Nat := if c = 0 then 0 else e (c - 1)
/-- a rule: its signs, its clauses -/
def RuR (c4 c13 : Cl) (d : Ad) (ru : Nat) (c12 : Cl) (B2 t : Nat) : Prop := ∃ (n nc : Nat) (b e : Nat → Nat), aN d (cR c4 0 ru) = n ∧ n ≤ 400 ∧ aN d (cR c4 1 ru) = nc ∧ aN d (cR c4 2 ru) = nc ∧ nc ≤ 12 ∧ cA c12 6 B2 t = nI nc ∧ (∀ i, i < n → Enc (cA c13 0 (cR c4 0 ru) i) (cA c12 3 B2 (400 * t + i))) ∧ ∀ c, c < nc → cs e c ≤ b c ∧ b c ≤ e c ∧ e c ≤ n ∧ cA c13 0 (cR c4 1 ru) c = nI (b c) ∧ cA c13 0 (cR c4 2 ru) c = nI (e c) ∧ cA c12 5 B2 (48 * t + 4 * c) = nI (cs e c) ∧ cA c12 5 B2 (48 * t + 4 * c + 1) = nI (b c) ∧ cA c12 5 B2 (48 * t + 4 * c + 2) = (if b c = e c then -1 else nI (b c)) ∧ cA c12 5 B2 (48 * t + 4 * c + 3) = nI (e c) ∧ (∀ w, ∃ v, rns w (cA c13 0 (cR c4 0 ru)) (b c - cs e c) (cs e c) [] = some [v]) ∧ (b c ≠ e c → ∀ w, ∃ v, (v = 0 ∨ v = 1) ∧ rns w (cA c13 0 (cR c4 0 ru)) (e c - b c) (b c) [] = some [v])
theorem f_170L (x lo hi : Int64) : F_170 x lo hi = some (if x < lo then 0 else if hi < x then 0 else 1) := by
  unfold F_170
  by_cases q : x < lo
  · rw [if_pos ((lg_cmp_lt _ _).mpr q), if_pos q]; rfl
  · rw [if_neg (fun z => q ((lg_cmp_lt _ _).mp z)), if_neg q]
    by_cases q2 : hi < x
    · rw [if_pos ((lg_cmp_gt _ _).mpr q2), if_pos q2]; rfl
    · rw [if_neg (fun z => q2 ((lg_cmp_gt _ _).mp z)), if_neg q2]; rfl
section Rule
variable {c1 c4 c8 c13 c12 : Cl} {d : Ad} {ru st B2 : Nat} {R D H Q M L E n h t : Nat} {K : Nat → Nat}
def OkX (S : Nat → Int32) (R H D h : Nat) (x : Int32) : Prop := x = -1 ∨ ∃ r, r < R ∧ x = nI r ∧ ¬ cg S H D h r = 0
/-- the room that a sum says -/
theorem fin_ok {v : Int64} (hh : h < H) (hS : SR c1 c8 st (cA c12 20 B2) R D H Q M L E K) : ∃ x, OkX (cA c12 20 B2) R H D h x ∧ (∀ c4' : Cl, (((if (lg_cmp v 0) < 0 then some 0 else if 0 ≤ (lg_cmp v ((cI c1 0 (cR c8 0 st) : Int32).toInt64)) then some 0 else some 1) : Option (Int32)) >>= fun (t11 : Int32) => ((if t11 = 0 then some (-1) else F_91 c1 c8 st (nI h) ((v : Int64).toInt32) >>= fun r16 => if r16 = 0 then some (-1) else some ((v : Int64).toInt32)) : Option (Int32)) >>= fun (t13 : Int32) => some (t13, c4')) = some (x, c4')) ∧ (∀ c12' : Cl, cA c12' 20 B2 = cA c12 20 B2 → (ald (cA c12' 20 B2) 221 0 >>= fun v13 => F_170 v 0 (((v13 : Int32).toInt64) - 1) >>= fun r14 => ((if r14 = 0 then some (-1) else F_241 c12' B2 (nI h) ((v : Int64).toInt32) >>= fun r18 => if r18 = 0 then some (-1) else some ((v : Int64).toInt32)) : Option (Int32)) >>= fun (t15 : Int32) => some (t15, c12')) = some (x, c12')) := by
  obtain ⟨⟨h1, hR, r6⟩, ⟨-, hD, d10⟩, ⟨-, hH, h6⟩, -, -, n14, n15⟩ := id hS.1.1
  obtain ⟨⟨y, hy, -⟩, -⟩ := hS.1.2.2.2.2.2.2.2.1.2.1 h hh
  have r1 : ((nI R : Int32).toInt64 - 1 : Int64) = lN (R - 1) := by
    rw [nI_l (by omega)]; exact lN_sub (a := R) (b := 1) (by omega)
  rw [h1]
  have f1 := f_170L v 0 (lN (R - 1))
  by_cases q : v < 0
  · refine ⟨-1, Or.inl rfl, fun c4' => ob_mk (in_pos ((lg_cmp_lt _ _).mpr q) rfl) (ob_mk (in_pos rfl rfl) rfl), fun c12' hc => ?_⟩
    rw [if_pos q] at f1
    rw [hc]
    exact ob_mk al_0 (by rw [hR, r1]; exact ob_mk f1 (ob_mk (in_pos rfl rfl) rfl))
  · obtain ⟨k, hk, rfl⟩ := pk_lOf q
    rw [if_neg q] at f1
    have eR : (nI R).toInt64 = lN R := nI_l (by omega)
    by_cases w : k < R
    · have f2 : (if lN (R - 1) < lN k then (0 : Int32) else 1) = 1 := if_neg (fun z => by have := (pk_lLT (by omega) (by omega)).mp z; omega)
      rw [f2] at f1
      have e5 : (lN k).toInt32 = nI k := lN_i k
      rw [e5]
      have g1 := f_91 hh w hS
      have ca : ((if (lg_cmp (lN k) 0) < 0 then some 0 else if 0 ≤ (lg_cmp (lN k) (nI R).toInt64) then some 0 else some 1) : Option (Int32)) = some 1 := in_neg (fun z => q ((lg_cmp_lt _ _).mp z)) (in_neg (fun z => by rw [eR] at z; have := (pk_lLE (by omega) (by omega)).mp ((lg_cmp_ge _ _).mp z); omega) rfl)
      have g2 : ∀ c12' : Cl, cA c12' 20 B2 = cA c12 20 B2 → F_241 c12' B2 (nI h) (nI k) = some (cg (cA c12 20 B2) H D h k) := fun c12' hc => by
        rw [f_241 (H := H) (D := D) (by omega) (by omega) (by rw [hc]; exact hH) h6 (by rw [hc]; exact hD) d10, hc]
      by_cases u : cg (cA c12 20 B2) H D h k = 0
      · refine ⟨-1, Or.inl rfl, fun c4' => ob_mk ca (ob_mk (in_neg (by decide) (ob_mk g1 (in_pos u rfl))) rfl), fun c12' hc => ?_⟩
        have g2' := g2 c12' hc
        rw [hc]
        exact ob_mk al_0 (by rw [hR, r1]; exact ob_mk f1 (ob_mk (in_neg (by decide) (ob_mk g2' (in_pos u rfl))) rfl))
      · refine ⟨nI k, Or.inr ⟨k, w, rfl, u⟩, fun c4' => ob_mk ca (ob_mk (in_neg (by decide) (ob_mk g1 (in_neg u rfl))) rfl), fun c12' hc => ?_⟩
        have g2' := g2 c12' hc
        rw [hc]
        exact ob_mk al_0 (by rw [hR, r1]; exact ob_mk f1 (ob_mk (in_neg (by decide) (ob_mk g2' (in_neg u rfl))) rfl))
    · have f2 : (if lN (R - 1) < lN k then (0 : Int32) else 1) = 0 := if_pos ((pk_lLT (by omega) (by omega)).mpr (by omega))
      rw [f2] at f1
      refine ⟨-1, Or.inl rfl, fun c4' => ob_mk (in_neg (fun z => q ((lg_cmp_lt _ _).mp z)) (in_pos ((lg_cmp_ge _ _).mpr (by rw [eR]; exact (pk_lLE (by omega) (by omega)).mpr (by omega))) rfl)) (ob_mk (in_pos rfl rfl) rfl), fun c12' hc => ?_⟩
      rw [hc]
      exact ob_mk al_0 (by rw [hR, r1]; exact ob_mk f1 (ob_mk (in_pos rfl rfl) rfl))
theorem rf_ok {b e : Nat → Nat} {nc : Nat} (hh : h < H) (t6 : t < 6) (hS : SR c1 c8 st (cA c12 20 B2) R D H Q M L E K) (hw : ∀ k, k < 12 → cB c12 19 B2 k = (wd (cA c12 20 B2) R D H M K h k).toInt64) (hn : aN d (cR c4 0 ru) = n) (n4 : n ≤ 400) (hn1 : aN d (cR c4 1 ru) = nc) (hn2 : aN d (cR c4 2 ru) = nc) (n12 : nc ≤ 12) (hcl : cA c12 6 B2 t = nI nc) (hen : ∀ i, i < n → Enc (cA c13 0 (cR c4 0 ru) i) (cA c12 3 B2 (400 * t + i))) (hc : ∀ c, c < nc → cs e c ≤ b c ∧ b c ≤ e c ∧ e c ≤ n ∧ cA c13 0 (cR c4 1 ru) c = nI (b c) ∧ cA c13 0 (cR c4 2 ru) c = nI (e c) ∧ cA c12 5 B2 (48 * t + 4 * c) = nI (cs e c) ∧ cA c12 5 B2 (48 * t + 4 * c + 1) = nI (b c) ∧ cA c12 5 B2 (48 * t + 4 * c + 2) = (if b c = e c then -1 else nI (b c)) ∧ cA c12 5 B2 (48 * t + 4 * c + 3) = nI (e c) ∧ (∀ w, ∃ v, rns w (cA c13 0 (cR c4 0 ru)) (b c - cs e c) (cs e c) [] = some [v]) ∧ (b c ≠ e c → ∀ w, ∃ v, (v = 0 ∨ v = 1) ∧ rns w (cA c13 0 (cR c4 0 ru)) (e c - b c) (b c) [] = some [v])) : ∀ (m c : Nat) (c4' c12' : Cl), c + m = nc → Kp [3] c4 c4' → Kp [17, 18] c12 c12' → ∃ x, OkX (cA c12 20 B2) R H D h x ∧ Rn (G_37 c1 c8 c13 d ru st 0 [nI h, nI (cs e c), nI c] [] [] c4') (fun r => r.1 = x ∧ Kp [3] c4 r.2) ∧ Rn (G_250 B2 0 [nI t, nI h, nI c] [] [] c12') (fun r => r.1 = x ∧ Kp [17, 18] c12 r.2)
  | 0, c, c4', c12', hi, hK, hK2 => by
    have : c = nc := by omega
    subst this
    refine ⟨-1, Or.inl rfl, ?_, ?_⟩
    · rw [G_37, (hK 1 (by decide)).2.2.1, hn1]
      exact rn_p (show nI c ≤ nI c from nI_le (Nat.le_refl _) (by omega)) (rn_r ⟨rfl, hK⟩)
    · rw [G_250, (hK2 6 (by decide)).2.2.2.1]
      refine rn_ld (by omega) (by decide) (rn_p (by rw [hcl]; exact nI_le (Nat.le_refl _) (by omega)) (rn_r ⟨rfl, hK2⟩))
  | m + 1, c, c4', c12', hi, hK, hK2 => by
    obtain ⟨q1, q2, q3, q4, q5, q6, q7, q8, q9, q10, q11⟩ := hc c (by omega)
    have r0 : cR c4' 0 ru = cR c4 0 ru := by rw [(hK 0 (by decide)).2.2.1]
    have r1 : cR c4' 1 ru = cR c4 1 ru := by rw [(hK 1 (by decide)).2.2.1]
    have r2 : cR c4' 2 ru = cR c4 2 ru := by rw [(hK 2 (by decide)).2.2.1]
    have a5 : cA c12' 5 B2 = cA c12 5 B2 := by rw [(hK2 5 (by decide)).2.2.2.1]
    have a6 : cA c12' 6 B2 = cA c12 6 B2 := by rw [(hK2 6 (by decide)).2.2.2.1]
    have ix0 : (48 : Int32) * nI t + (4 : Int32) * nI c = nI (48 * t + 4 * c) := by rw [show (48 : Int32) * nI t = nI (48 * t) from pk_mul 48 t, show (4 : Int32) * nI c = nI (4 * c) from pk_mul 4 c, nI_add]
    have ix1 : nI (48 * t + 4 * c) + (1 : Int32) = nI (48 * t + 4 * c + 1) := nI_add _ 1
    have ix2 : nI (48 * t + 4 * c) + (2 : Int32) = nI (48 * t + 4 * c + 2) := nI_add _ 2
    have ix3 : nI (48 * t + 4 * c) + (3 : Int32) = nI (48 * t + 4 * c + 3) := nI_add _ 3
    obtain ⟨vs, hvs⟩ := q10 (fun k => (wd (cA c12 20 B2) R D H M K h k).toInt64)
    obtain ⟨x, hx, fx, fm⟩ := fin_ok (v := vs) hh hS
    have l1 : ∀ c4'', Kp [3] c4 c4'' → Rn (G_37 c1 c8 c13 d ru st 1 [nI h, nI (cs e c), nI (b c)] [] [] c4'') (fun r => r.1 = x ∧ Kp [3] c4 r.2) := fun c4'' k1 => by
      rw [G_37]
      have z0 : cR c4'' 0 ru = cR c4 0 ru := by rw [(k1 0 (by decide)).2.2.1]
      refine rn_b (f_38 (c4 := c4'') (n := n) (code := cA c13 0 (cR c4 0 ru)) hh hS (fun k _ => rfl) (by rw [z0]; exact hn) n4 (by rw [z0]) (fun i q => ⟨_, hen i q⟩) (by omega) q1 hvs) (fun r ⟨e1, e2⟩ => ?_)
      rw [e1]
      exact rn_q (fx r.2) ⟨rfl, kp_tr k1 e2⟩
    have l2 : ∀ c12'', Kp [17, 18] c12 c12'' → Rn (G_250 B2 1 [nI t, nI h, nI (48 * t + 4 * c)] [] [] c12'') (fun r => r.1 = x ∧ Kp [17, 18] c12 r.2) := fun c12'' k1 => by
      rw [G_250, (k1 5 (by decide)).2.2.2.1, ix1]
      refine rn_ld (by omega) (by decide) (rn_ld (by omega) (by decide) ?_)
      rw [q6, q7]
      refine rn_b (f_217 (c12 := c12'') (n := n) (code := cA c13 0 (cR c4 0 ru)) t6 n4 (fun i q => by rw [(k1 3 (by decide)).2.2.2.1]; exact hen i q) (fun k q => by rw [(k1 19 (by decide)).2.2.2.2.1]; exact hw k q) (by omega) q1 hvs) (fun r ⟨e1, e2⟩ => ?_)
      rw [e1]
      exact rn_q (fm r.2 (by rw [(e2 20 (by decide)).2.2.2.1, (k1 20 (by decide)).2.2.2.1])) ⟨rfl, kp_tr k1 e2⟩
    by_cases w : b c = e c
    · refine ⟨x, hx, ?_, ?_⟩
      · rw [G_37, r1, r2, hn1, hn2]
        refine rn_n (show ¬ nI nc ≤ nI c from nI_ge (by omega) (by omega)) (rn_n (show ¬ nI nc ≤ nI c from nI_ge (by omega) (by omega)) (rn_ld (by omega) (by omega) (rn_ld (by omega) (by omega) ?_)))
        rw [q4, q5]
        exact rn_p (by rw [w]) (l1 c4' hK)
      · rw [G_250, a6, a5]
        refine rn_ld (by omega) (by decide) (rn_n (by rw [hcl]; exact nI_ge (by omega) (by omega)) ?_)
        rw [ix0, ix2]
        refine rn_ld (by omega) (by decide) ?_
        rw [q8]
        exact rn_p (by rw [if_pos w]; decide) (l2 c12' hK2)
    · obtain ⟨vt, v01, hvt⟩ := q11 w (fun k => (wd (cA c12 20 B2) R D H M K h k).toInt64)
      have t1 := f_38 (c4 := c4') (n := n) (code := cA c13 0 (cR c4 0 ru)) (d := d) (ru := ru) hh hS (fun k _ => rfl) (by rw [r0]; exact hn) n4 (by rw [r0]) (fun i q => ⟨_, hen i q⟩) q3 q2 hvt
      have t2 := f_217 (c12 := c12') (n := n) (code := cA c13 0 (cR c4 0 ru)) t6 n4 (fun i q => by rw [(hK2 3 (by decide)).2.2.2.1]; exact hen i q) (fun k q => by rw [(hK2 19 (by decide)).2.2.2.2.1]; exact hw k q) q3 q2 hvt
      have nb : ¬ nI (b c) = nI (e c) := fun z => w ((nI_eq (by omega) (by omega)).mp z)
      have start1 : ∀ {P : Int32 × Cl → Prop}, (∀ r : Int64 × Cl, r.1 = vt ∧ Kp [3] c4' r.2 → Rn (if (lg_cmp r.1 0) = 0 then G_37 c1 c8 c13 d ru st 0 [nI h, nI (e c), nI c + 1] [] [] r.2 else G_37 c1 c8 c13 d ru st 1 [nI h, nI (cs e c), nI (b c)] [] [] r.2) P) → Rn (G_37 c1 c8 c13 d ru st 0 [nI h, nI (cs e c), nI c] [] [] c4') P := fun {P} k => by
        rw [G_37, r1, r2, hn1, hn2]
        refine rn_n (show ¬ nI nc ≤ nI c from nI_ge (by omega) (by omega)) (rn_n (show ¬ nI nc ≤ nI c from nI_ge (by omega) (by omega)) (rn_ld (by omega) (by omega) (rn_ld (by omega) (by omega) ?_)))
        rw [q4, q5]
        exact rn_n nb (rn_b t1 k)
      have start2 : ∀ {P : Int32 × Cl → Prop}, (∀ r : Int64 × Cl, r.1 = vt ∧ Kp [17, 18] c12' r.2 → Rn (if (lg_cmp r.1 1) = 0 then G_250 B2 1 [nI t, nI h, nI (48 * t + 4 * c)] [] [] r.2 else G_250 B2 0 [nI t, nI h, nI c + 1] [] [] r.2) P) → Rn (G_250 B2 0 [nI t, nI h, nI c] [] [] c12') P := fun {P} k => by
        rw [G_250, a6, a5]
        refine rn_ld (by omega) (by decide) (rn_n (by rw [hcl]; exact nI_ge (by omega) (by omega)) ?_)
        rw [ix0, ix2, ix3]
        refine rn_ld (by omega) (by decide) ?_
        rw [q8, if_neg w]
        refine rn_n (nI_pos (by omega)) (rn_ld (by omega) (by decide) ?_)
        rw [q8, if_neg w]
        refine rn_ld (by omega) (by decide) ?_
        rw [q9]
        exact rn_b t2 k
      rcases v01 with v0 | v1
      · obtain ⟨x2, hx2, g1, -⟩ := rf_ok hh t6 hS hw hn n4 hn1 hn2 n12 hcl hen hc m (c + 1) c4' c12' (by omega) hK hK2
        have ecs : cs e (c + 1) = e c := by unfold cs; rw [if_neg (by omega), Nat.add_sub_cancel]
        obtain ⟨⟨r1v, r1c⟩, er1, e11, e12⟩ := t1
        obtain ⟨⟨r2v, r2c⟩, er2, e21, e22⟩ := t2
        dsimp only at e11 e12 e21 e22
        obtain ⟨x3, hx3, g3, g4⟩ := rf_ok hh t6 hS hw hn n4 hn1 hn2 n12 hcl hen hc m (c + 1) r1c r2c (by omega) (kp_tr hK e12) (kp_tr hK2 e22)
        rw [ecs] at g3
        refine ⟨x3, hx3, ?_, ?_⟩
        · rw [G_37, r1, r2, hn1, hn2]
          refine rn_n (show ¬ nI nc ≤ nI c from nI_ge (by omega) (by omega)) (rn_n (show ¬ nI nc ≤ nI c from nI_ge (by omega) (by omega)) (rn_ld (by omega) (by omega) (rn_ld (by omega) (by omega) ?_)))
          rw [q4, q5]
          refine rn_n nb (rn_e er1 (rn_p ((lg_cmp_eq _ _).mpr (by rw [e11, v0])) ?_))
          rw [nI_1]
          exact g3
        · rw [G_250, a6, a5]
          refine rn_ld (by omega) (by decide) (rn_n (by rw [hcl]; exact nI_ge (by omega) (by omega)) ?_)
          rw [ix0, ix2, ix3]
          refine rn_ld (by omega) (by decide) ?_
          rw [q8, if_neg w]
          refine rn_n (nI_pos (by omega)) (rn_ld (by omega) (by decide) ?_)
          rw [q8, if_neg w]
          refine rn_ld (by omega) (by decide) ?_
          rw [q9]
          refine rn_e er2 (rn_n (fun z => by have := (lg_cmp_eq _ _).mp z; dsimp only at this; rw [e21, v0] at this; exact absurd this (by decide)) ?_)
          rw [nI_1]
          exact g4
      · refine ⟨x, hx, start1 (fun r ⟨e1, e2⟩ => rn_n (fun z => by have := (lg_cmp_eq _ _).mp z; rw [e1, v1] at this; exact absurd this (by decide)) (l1 r.2 (kp_tr hK e2))), start2 (fun r ⟨e1, e2⟩ => rn_p ((lg_cmp_eq _ _).mpr (by rw [e1, v1])) (l2 r.2 (kp_tr hK2 e2)))⟩
/-- where a head would go by a rule: both alike -/
theorem by_ok (hh : h < H) (t6 : t < 6) (hS : SR c1 c8 st (cA c12 20 B2) R D H Q M L E K) (hR : RuR c4 c13 d ru c12 B2 t) : ∃ x, OkX (cA c12 20 B2) R H D h x ∧ Rn (F_37 c1 c4 c8 c13 d ru st (nI h)) (fun r => r.1 = x ∧ Kp [3] c4 r.2) ∧ Rn (F_250 c12 B2 (nI t) (nI h)) (fun r => r.1 = x ∧ Kp [17, 18, 19] c12 r.2) := by
  obtain ⟨n, nc, b, e, hn, n4, hn1, hn2, n12, hcl, hen, hc⟩ := hR
  obtain ⟨c12', e1, hK, hW⟩ := f_249 hh hS
  have a3 : cA c12' 3 = cA c12 3 := (hK 3 (by decide)).2.2.2.1
  have a5 : cA c12' 5 = cA c12 5 := (hK 5 (by decide)).2.2.2.1
  have a6 : cA c12' 6 = cA c12 6 := (hK 6 (by decide)).2.2.2.1
  have a20 : cA c12' 20 = cA c12 20 := (hK 20 (by decide)).2.2.2.1
  have := rf_ok (c12 := c12') (n := n) (t := t) (h := h) (b := b) (e := e) (nc := nc) hh t6 (by rw [a20]; exact hS) (by rw [a20]; exact hW) hn n4 hn1 hn2 n12 (by rw [a6]; exact hcl) (by rw [a3]; exact hen) (by rw [a5]; exact hc) nc 0 c4 c12' (by omega) (kp_rf _ _) (kp_rf _ _)
  rw [a20] at this
  obtain ⟨x, hx, g1, g2⟩ := this
  refine ⟨x, hx, g1, ?_⟩
  unfold F_250
  exact rn_e e1 (rn_m g2 (fun r ⟨z1, z2⟩ => ⟨z1, kp_tr (kp_wd hK (by decide)) (kp_wd z2 (by decide))⟩))
end Rule
