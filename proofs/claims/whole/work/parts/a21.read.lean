/-! ===== house: the first clause; all clauses ===== -/
section ReadH
variable {c c1 c2 c3 c11 c12 : Cl} {d : Ad} {rd hr ho B2 : Nat} {u : Nat → Nat} {l n p q : Nat} {R D H Q : Nat}
theorem kd_ch {ch : Nat} (h1 : ¬ (48 ≤ ch ∧ ch ≤ 57)) (h2 : ¬ (97 ≤ ch ∧ ch ≤ 122)) (h3 : ch ≠ 60) (h4 : ch ≠ 62) : kd u l p = 100 + ch ↔ (p < l ∧ u p = ch) := by
  unfold kd
  by_cases w : p < l
  · rw [if_pos w]
    by_cases e : isD (u p) = true
    · have := isD_t.mp e
      rw [if_pos e]
      constructor
      · intro z; split at z <;> omega
      · intro z; omega
    · rw [if_neg e]
      by_cases f : isL (u p) = true
      · have := isL_t.mp f
        rw [if_pos f]
        constructor
        · intro z; rcases wk_lt (u := u) (p := p) (n := le u l p - p) with y | y <;> omega
        · intro z; omega
      · rw [if_neg f]
        by_cases g : (u p = 60 ∨ u p = 62) ∧ p + 1 < l ∧ u (p + 1) = 61
        · rw [if_pos g]
          constructor
          · intro z; split at z <;> omega
          · intro z; omega
        · rw [if_neg g]; omega
  · rw [if_neg w]; omega
theorem nxt_ch (hp : p < l) (h1 : ¬ (48 ≤ u p ∧ u p ≤ 57)) (h2 : ¬ (97 ≤ u p ∧ u p ≤ 122)) (h3 : u p ≠ 60) (h4 : u p ≠ 62) : nxt u l p = p + 1 ∧ skp u l p = sk u l (p + 1) := by
  have e : nxt u l p = p + 1 := by
    unfold nxt
    rw [if_neg (fun z => h1 (isD_t.mp z)), if_neg (fun z => h2 (isL_t.mp z)), if_neg (fun z => by omega)]
  exact ⟨e, by unfold skp; rw [if_pos hp, e]⟩
theorem kd_35 (h : kd u l p = 35) : l ≤ p := by
  refine Classical.byContradiction fun w => ?_
  unfold kd at h
  rw [if_pos (by omega)] at h
  split at h
  · split at h <;> omega
  · split at h
    · rcases wk_lt (u := u) (p := p) (n := le u l p - p) with y | y <;> omega
    · split at h
      · split at h <;> omega
      · omega
/-- a house of the class as it is made -/
def Hf (c1 : Cl) (ho : Nat) : Prop := (cI c1 0 ho = 0 ∧ cI c1 1 ho = 0 ∧ cI c1 2 ho = 0 ∧ cI c1 3 ho = 0 ∧ cI c1 4 ho = 3) ∧ ∀ r, r < 6 → cA c1 9 ho r = 0 ∧ cA c1 10 ho r = 99 ∧ cA c1 12 ho r = 0
def Yf (Y : Nat → Int32) : Prop := (∀ j, j < 7 → Y j = 0) ∧ Y 7 = -1
theorem gl_200 {cz : Cl} : ∀ (m i : Nat) (c' : Cl), i + m = 6 → Kp [7] cz c' → (∀ j, (j < 76 ∨ 88 ≤ j) → cA c' 7 B2 j = cA cz 7 B2 j) → (∀ r, r < i → cA c' 7 B2 (76 + r) = 0 ∧ cA c' 7 B2 (82 + r) = 99) → Rn (G_200 B2 0 [nI i] [] [] c') (fun r => r.1 = 1 ∧ Kp [7] cz r.2 ∧ (∀ j, (j < 76 ∨ 88 ≤ j) → cA r.2 7 B2 j = cA cz 7 B2 j) ∧ (∀ x, x < 6 → cA r.2 7 B2 (76 + x) = 0 ∧ cA r.2 7 B2 (82 + x) = 99))
  | 0, i, c', hi, hK, h1, h2 => by
    have : i = 6 := by omega
    subst this
    rw [G_200]
    exact rn_p (by decide) (rn_r ⟨rfl, hK, h1, h2⟩)
  | m + 1, i, c', hi, hK, h1, h2 => by
    rw [G_200]
    refine rn_n (show ¬ nI 6 ≤ nI i from nI_ge (by omega) (by decide)) ?_
    rw [show (76 : Int32) + nI i = nI (76 + i) from nI_add 76 i, show (82 : Int32) + nI i = nI (82 + i) from nI_add 82 i]
    refine rn_st (by omega) (by decide) (rn_st (by omega) (by decide) ?_)
    rw [nI_1]
    have e : ∀ j, cA (sA (sA c' 7 B2 (upd (cA c' 7 B2) (76 + i) 0)) 7 B2 (upd (cA (sA c' 7 B2 (upd (cA c' 7 B2) (76 + i) 0)) 7 B2) (82 + i) 99)) 7 B2 j = upd (upd (cA c' 7 B2) (76 + i) 0) (82 + i) 99 j := fun j => by rw [cA_same, cA_same]
    refine gl_200 m (i + 1) _ (by omega) (kp_tr hK (kp_tr (kp_A (by decide)) (kp_A (by decide)))) (fun j hj => ?_) (fun r hr => ⟨?_, ?_⟩)
    · rw [e, pk_un (by omega), pk_un (by omega)]; exact h1 j hj
    · rw [e, pk_un (by omega)]
      by_cases w : r = i
      · rw [w, pk_us]
      · rw [pk_un (by omega)]; exact (h2 r (by omega)).1
    · rw [e]
      by_cases w : r = i
      · rw [w, pk_us]
      · rw [pk_un (by omega), pk_un (by omega)]; exact (h2 r (by omega)).2
/-- the first clause, both alike -/
theorem cl_first (hu : ∀ j, u j < 256) (l4 : l ≤ 400) (hF : Hf c1 ho) (hY : Yf (cA c12 7 B2)) (lg0 : cI c2 1 hr = 0) (e2 : cR c2 0 hr = rd) (hd : RD c3 rd u l p) (h7 : cI c3 7 rd = 0) (hR : RP c12 B2 u l n) (hp : sk u l n = p) (h9 : cI c12 9 B2 = 0) (h11 : cI c12 11 B2 = 6) (h14 : cI c12 14 B2 = 0) : ∃ rx rm, F_16 c1 c2 c3 hr ho 0 = some rx ∧ F_209 c12 B2 = some rm ∧ Oth ho c1 rx.1 ∧ (Kp [1] c2 rx.2.1 ∧ Oth hr c2 rx.2.1) ∧ (Kp [6, 7] c3 rx.2.2 ∧ Oth rd c3 rx.2.2) ∧ Kp [7, 8, 9, 10, 14] c12 rm.2 ∧ ((rm.1 = 1 ∧ cI rm.2 14 B2 = nI 1 ∧ ∃ q R, 2 ≤ R ∧ R ≤ 6 ∧ HS rd hr ho B2 u l rx.1 rx.2.1 rx.2.2 rm.2 q R 0 0 0) ∨ (rm.1 = 0 ∧ FO rd B2 u l rx.2.2 rm.2)) := by
  have pl := RD_le hd
  have kb := kd_b (l := l) (p := p) hu
  have pp : sk u l p = p := by rw [← hp]; exact sk_sk
  obtain ⟨s0, s1, s2, s3, -⟩ := f_177 hu l4 hR
  rw [hp] at s3
  have s8 : cI s0.2 8 B2 = nI p := s3.2.2.1
  have s11 : cI s0.2 11 B2 = 6 := by rw [(s2 11 (by decide)).1]; exact h11
  obtain ⟨r8, g1, g2, g3, g4⟩ := f_208 (c := s0.2) (B2 := B2) hu l4 s3 pp
  have kk : Kp [8] c12 r8.2 := kp_tr s2 g2
  have hm0 : ∀ {v : Int32 × Cl}, ((if r8.1 = 0 then G_209 r8.2 B2 0 [nI p] [] [] else G_209 r8.2 B2 1 [nI p, 1] [] []) : Option (Int32 × Cl)) = some v → F_209 c12 B2 = some v := fun {v} e => by
    unfold F_209
    refine ob_mk s1 ?_
    rw [s11, s8]
    exact ob_mk (v := (1 : Int32)) (if_pos rfl) (in_neg (by decide) (ob_mk g1 e))
  have ref : ∀ (w : Nat) (cm : Cl), w < 8 → Kp [8, 14] c12 cm → F_16 c1 c2 c3 hr ho 0 = (F_28 c3 rd (nI w) >>= fun r => some (c1, c2, r)) → (∀ v : Int32 × Cl, (v.1 = 0 ∨ v.1 = 1) → (F_176 cm B2 (nI w) (nI p) >>= fun r => zb r.1 >>= fun z => some (z, r.2)) = some v → F_209 c12 B2 = some v) → ∃ rx rm, F_16 c1 c2 c3 hr ho 0 = some rx ∧ F_209 c12 B2 = some rm ∧ Oth ho c1 rx.1 ∧ (Kp [1] c2 rx.2.1 ∧ Oth hr c2 rx.2.1) ∧ (Kp [6, 7] c3 rx.2.2 ∧ Oth rd c3 rx.2.2) ∧ Kp [7, 8, 9, 10, 14] c12 rm.2 ∧ ((rm.1 = 1 ∧ cI rm.2 14 B2 = nI 1 ∧ ∃ q R, 2 ≤ R ∧ R ≤ 6 ∧ HS rd hr ho B2 u l rx.1 rx.2.1 rx.2.2 rm.2 q R 0 0 0) ∨ (rm.1 = 0 ∧ FO rd B2 u l rx.2.2 rm.2)) := fun w cm hw km hx hm => by
    obtain ⟨t, t1, t2, t3, t4, t5, -⟩ := f_28 (w := w) hd
    obtain ⟨v, v1, v2, v3, v4, -⟩ := f_176 (c := cm) (B2 := B2) (w := w) (p := p)
    exact ⟨(c1, c2, t), v, hx.trans (ob_mk t1 rfl), hm v (Or.inl v2) (ob_mk v1 (zb_ok (Or.inl v2))), oth_rf _ _, ⟨kp_rf _ _, oth_rf _ _⟩, ⟨kp_wd t2 (by decide), t3⟩, kp_tr (kp_wd km (by decide)) (kp_wd v3 (by decide)), Or.inr ⟨v2, flt p w, p, t5 h7, v4 (by rw [(km 9 (by decide)).1]; exact h9), by unfold flt; omega, by unfold flt; omega, t4⟩⟩
  have f29 := f_29 hd
  have lab : ∀ {y : Option (Cl × Cl × Cl)}, hwd (kd u l p) → G_16 c1 c2 c3 hr ho 1 [0, nI (kd u l p)] [] [] = y → F_16 c1 c2 c3 hr ho 0 = y := fun {y} hw e => by
    unfold F_16
    rw [e2]
    refine ob_e f29 ?_
    unfold hwd at hw
    by_cases z : kd u l p = 0
    · rw [if_pos (by rw [z]; rfl)]; exact e
    · rw [if_neg (nI_ne0 (by omega) (by omega)), if_neg (show ¬ nI (kd u l p) < (12 : Int32) from nI_nlt (b := 12) (by omega) (by omega)), if_pos (show nI (kd u l p) ≤ (17 : Int32) from nI_le (b := 17) (by omega) (by omega))]; exact e
  have l2 : G_16 c1 c2 c3 hr ho 2 [] [] [] = (F_28 c3 rd (nI 4) >>= fun r => some (c1, c2, r)) := by rw [G_16, e2]; rfl
  rcases g4 with ⟨g4, g5⟩ | ⟨g4, g5⟩
  · have hm1 : ∀ {v : Int32 × Cl}, G_209 r8.2 B2 1 [nI p, 1] [] [] = some v → F_209 c12 B2 = some v := fun {v} e => hm0 (in_neg (by rw [g5]; decide) e)
    have r14 : cI r8.2 14 B2 = 0 := by rw [(kk 14 (by decide)).1]; exact h14
    obtain ⟨m14, hm14⟩ : ∃ m14, m14 = sI r8.2 14 B2 (nI 1) := ⟨_, rfl⟩
    have k14 : Kp [14] r8.2 m14 := by rw [hm14]; exact kp_I (by decide)
    have kz : Kp [8, 14] c12 m14 := kp_tr (kp_wd kk (by decide)) (kp_wd k14 (by decide))
    have e14 : cI m14 14 B2 = nI 1 := by rw [hm14, cI_same]
    have Rz : RP m14 B2 u l p := RP_k k14 (by decide) (by decide) (by decide) g3
    have hm2 : ∀ {v : Int32 × Cl}, (v.1 = 0 ∨ v.1 = 1) → F_207 m14 B2 (nI p) = some v → F_209 c12 B2 = some v := fun {v} hv e => by
      refine hm1 ?_
      rw [G_209, r14]
      exact ob_mk (v := (40 : Int32)) (if_neg (by decide)) (in_neg (by decide) (ob_mk (v := m14) (by rw [hm14]; rfl) (ob_mk (v := v) (in_neg (by decide) (ob_mk e rfl)) (zb_ok hv))))
    obtain ⟨q1, w1, k1, R1, h1⟩ := f_180p (c := m14) (B2 := B2) (w := 491495845235) (i := 12) hu l4 (by decide) rfl Rz pp
    have kq : Kp [8, 14] c12 q1.2 := kp_tr kz (kp_wd k1 (by decide))
    have e7q : cA q1.2 7 B2 = cA c12 7 B2 := by rw [(kq 7 (by decide)).2.2.2.1]
    have v3 : ald (cA q1.2 7 B2) 94 0 = some 0 := (ald_ok (i := 0) (by decide) (by decide)).trans (by rw [e7q, hY.1 0 (by decide)])
    rcases h1 with ⟨h12, e1⟩ | ⟨h12, e1⟩
    · -- rooms
      obtain ⟨hle1, hle2, hle3⟩ := kd_wl hu (by decide) h12
      obtain ⟨c3', t1, t2, t3, t4⟩ := f_31 hd
      have t7 : cI c3' 7 rd = 0 := by rw [(t2 7 (by decide)).1]; exact h7
      obtain ⟨rx, x1, x2, x3, x4, x5⟩ := f_35 (lo := 2) (hi := 6) hu l4 (by decide) (by decide) t4
      obtain ⟨m0, y1, y2, y3⟩ := f_181 hu l4 R1
      obtain ⟨rm, z1, z2, z3⟩ := f_199 (lo := 2) (hi := 6) (cell := 0) hu l4 (by decide) (by decide) (by decide) y3 hle3.symm
      have km : Kp [7, 8, 9, 10, 14] c12 rm.2 := kp_tr (kp_wd kq (by decide)) (kp_tr (kp_wd y2 (by decide)) (kp_wd z2 (by decide)))
      have e9 : cI m0 9 B2 = 0 := by rw [(y2 9 (by decide)).1, (kq 9 (by decide)).1]; exact h9
      have hm3 : ∀ {v : Int32 × Cl}, (v.1 = 0 ∨ v.1 = 1) → (if rm.1 = 0 then some (0, rm.2) else G_200 B2 0 [0] [] [] rm.2) = some v → F_209 c12 B2 = some v := fun {v} hv e => by
        refine hm2 hv ?_
        unfold F_207
        refine ob_mk w1 (in_neg (by rw [e1]; decide) (ob_mk (v := v) ?_ (zb_ok hv)))
        unfold F_200
        exact ob_mk v3 (in_pos (by decide) (ob_mk y1 (ob_mk z1 e)))
      have hx : ∀ {v : Cl × Cl × Cl}, F_18 c1 c2 c3' hr ho 12 = some v → F_16 c1 c2 c3 hr ho 0 = some v := fun {v} e => by
        refine lab g4 ?_
        rw [G_16, h12]
        refine in_neg (by decide) (ob_mk (v := (1 : Int32)) (if_pos rfl) (ob_mk (v := (1 : Int32)) (if_pos rfl) (in_pos rfl (ob_mk (v := (1 : Int32)) ?_ (in_neg (by decide) (ob_mk (v := c3') (by rw [e2]; exact t1) (ob_mk e rfl)))))))
        unfold F_17
        exact in_neg (by decide) (in_neg (by decide) (in_neg (by decide) (in_neg (by decide) rfl)))
      have qb := RD_le t4
      rcases x5 with ⟨_, a, b, e⟩ | ⟨_, a, b, e⟩ | ⟨a, _⟩
      · rcases z3 with ⟨_, f, g, h, i⟩ | ⟨f, _⟩
        · obtain ⟨rz, j1, j2, j3, j4, j5⟩ := gl_200 (cz := rm.2) (B2 := B2) 6 0 rm.2 rfl (kp_rf _ _) (fun _ _ => rfl) (fun r hr => absurd hr (Nat.not_lt_zero _))
          have hx18 : F_18 c1 c2 c3' hr ho 12 = some (sI c1 0 ho rx.1, c2, rx.2) := by
            unfold F_18
            rw [e2]
            exact in_pos rfl (ob_mk x1 (ob_mk (v := rx.1) (if_pos e) (ob_mk rfl rfl)))
          have base : ∀ j, j ≠ 0 → (j < 76 ∨ 88 ≤ j) → cA rz.2 7 B2 j = cA c12 7 B2 j := fun j j0 jj => by rw [j4 j jj, i, pk_un j0, (y2 7 (by decide)).2.2.2.1, e7q]
          refine ⟨_, rz, hx hx18, hm3 (Or.inr j2) (in_neg (by rw [f]; decide) j1), oth_I, ⟨kp_rf _ _, oth_rf _ _⟩, ⟨kp_tr (kp_wd t2 (by decide)) x2, oth_tr t3 x3⟩, kp_tr km (kp_wd j3 (by decide)), Or.inl ⟨j2, ?_, skp u l (skp u l p), nv u l (skp u l p), a.2.1, a.2.2, ?_, e2, x4, e, ⟨nxt u l (skp u l p), RP_k j3 (by decide) (by decide) (by decide) g, okn_sk a⟩, by show cI rz.2 9 B2 = 0; rw [(j3 9 (by decide)).1, h]; exact e9⟩⟩
          · rw [(j3 14 (by decide)).1, (z2 14 (by decide)).1, (y2 14 (by decide)).1, (k1 14 (by decide)).1]; exact e14
          · show HR (sI c1 0 ho rx.1) ho (cA rz.2 7 B2) (nv u l (skp u l p)) 0 0 0 (cI c2 1 hr)
            have sI' : ∀ k, k ≠ 0 → cI (sI c1 0 ho rx.1) k ho = cI c1 k ho := fun k hk => by rw [cI_sI, if_neg (fun z => hk z.1)]
            refine ⟨⟨⟨by rw [cI_same]; exact b, ?_⟩, ⟨by rw [sI' 1 (by decide)]; exact hF.1.2.1, by rw [base 1 (by omega) (by omega)]; exact hY.1 1 (by decide), by decide⟩, ⟨by rw [sI' 2 (by decide)]; exact hF.1.2.2.1, by rw [base 2 (by omega) (by omega)]; exact hY.1 2 (by decide), by decide⟩, ⟨by rw [sI' 3 (by decide)]; exact hF.1.2.2.2.1, by rw [base 3 (by omega) (by omega)]; exact hY.1 3 (by decide), by decide⟩, by rw [base 4 (by omega) (by omega)]; exact hY.1 4 (by decide), by rw [base 5 (by omega) (by omega)]; exact hY.1 5 (by decide)⟩, fun i hi => absurd hi (Nat.not_lt_zero _), fun i hi => absurd hi (Nat.not_lt_zero _), fun r hr => ⟨⟨0, by decide, (hF.2 r hr).1, (j5 r hr).1⟩, 99, by decide, by decide, (hF.2 r hr).2.1, (j5 r hr).2⟩, fun s hs => absurd hs (Nat.not_lt_zero _), fun r hr => (hF.2 r hr).2.2, Or.inl ⟨lg0, by rw [base 7 (by omega) (by omega)]; exact hY.2, by rw [sI' 4 (by decide)]; exact hF.1.2.2.2.2⟩⟩
            rw [j4 0 (by omega), i, pk_us]
        · exact absurd a f
      · rcases z3 with ⟨f, _⟩ | ⟨_, f, g⟩
        · exact absurd f a
        · have fb := nfl_b (u := u) (l := l) (p := skp u l p) (by omega)
          have nz : ¬ cI rx.2 7 rd = 0 := by rw [e]; exact nI_ne0 (by omega) (by omega)
          have hx18 : F_18 c1 c2 c3' hr ho 12 = some (sI c1 0 ho 0, c2, rx.2) := by
            unfold F_18
            rw [e2]
            exact in_pos rfl (ob_mk x1 (ob_mk (v := (0 : Int32)) (if_neg nz) (ob_mk rfl rfl)))
          exact ⟨_, _, hx hx18, hm3 (v := (0, rm.2)) (Or.inl rfl) (in_pos f rfl), oth_I, ⟨kp_rf _ _, oth_rf _ _⟩, ⟨kp_tr (kp_wd t2 (by decide)) x2, oth_tr t3 x3⟩, km, Or.inr ⟨rfl, nfl u l (skp u l p), skp u l (skp u l p), e, g e9, fb.1, fb.2, x4⟩⟩
      · exact absurd t7 a
    · refine ref 4 q1.2 (by decide) kq (lab g4 ?_) (fun v hv e => hm2 hv ?_)
      · rw [G_16, if_neg (by decide)]
        refine ob_e (v := (0 : Int32)) (if_neg (fun z => h12 ((nI_eq (a := kd u l p) (b := 12) (by omega) (by omega)).mp z))) (ob_e (v := (1 : Int32)) (if_pos rfl) ?_)
        rw [if_neg (by decide)]
        exact l2
      · unfold F_207
        exact ob_mk w1 (in_pos e1 (ob_mk v3 (in_pos rfl e)))
  · have hm1 : ∀ {v : Int32 × Cl}, G_209 r8.2 B2 0 [nI p] [] [] = some v → F_209 c12 B2 = some v := fun {v} e => hm0 (in_pos g5 e)
    refine ref 0 r8.2 (by decide) (kp_wd kk (by decide)) ?_ (fun v _ e => hm1 (by rw [G_209]; exact e))
    unfold F_16
    rw [e2]
    refine ob_e f29 ?_
    have g0 : G_16 c1 c2 c3 hr ho 0 [] [] [] = (F_28 c3 rd (nI 0) >>= fun r => some (c1, c2, r)) := by rw [G_16, e2]; rfl
    unfold hwd at g4
    rw [if_neg (nI_ne0 (by omega) (by omega))]
    by_cases z : kd u l p < 12
    · rw [if_pos (show nI (kd u l p) < (12 : Int32) from nI_lt (b := 12) z (by omega))]; exact g0
    · rw [if_neg (show ¬ nI (kd u l p) < (12 : Int32) from nI_nlt (b := 12) (by omega) (by omega)), if_neg (show ¬ nI (kd u l p) ≤ (17 : Int32) from nI_ge (b := kd u l p) (a := 17) (by omega) (by omega))]; exact g0
end ReadH
