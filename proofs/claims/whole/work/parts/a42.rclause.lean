/-! ===== rules: a clause ===== -/
section RClause
variable {c c3 c5 : Cl} {B2 t rd ru : Nat} {u : Nat → Nat} {l : Nat} {x : Ps} {cn : Nat}
/-- a clause, from behind its word: a fault; or its sum's end, and its own -/
def pcl (u : Nat → Nat) (l : Nat) (x : Ps) : Sum Nat (Ps × Ps × Bool) := match psum u l (pskx u l x) with
  | .inl f => .inl f
  | .inr y => if kd u l (rP y) = 19 then (match ptest u l (pskx u l y) with | .inl f => .inl f | .inr z => .inr (y, z, true)) else .inr (y, y, false)
theorem RI_45 {r : Pr} {c5' : Cl} (k : Kp [4, 5] c5 c5') (h : RI rd ru u l r c3 c5) : RI rd ru u l r c3 c5' := by
  have a2 : cI c5' 2 ru = cI c5 2 ru := by rw [(k 2 (by decide)).1]
  have a3 : cI c5' 3 ru = cI c5 3 ru := by rw [(k 3 (by decide)).1]
  have a0 : cR c5' 0 ru = cR c5 0 ru := by rw [(k 0 (by decide)).2.2.1]
  have a1 : cA c5' 1 ru = cA c5 1 ru := by rw [(k 1 (by decide)).2.2.2.1]
  cases r with
  | inl f =>
    obtain ⟨h1, h2, h3, h4, h5, h6, h7⟩ := h
    exact ⟨h1, h2, h3, h4, by rw [a2]; exact h5, by rw [a3]; exact h6, by rw [a0]; exact h7⟩
  | inr x =>
    obtain ⟨h1, h2, h3, h4, h5, h6, h7⟩ := h
    exact ⟨h1, by rw [a2]; exact h2, h3, by rw [a3]; exact h4, h5, fun i hi => by rw [a1]; exact h6 i hi, by rw [a0]; exact h7⟩
/-- the class's clause -/
theorem f_42 (hu : ∀ j, u j < 256) (l4 : l ≤ 400) (hcn : cn ≤ 12) (h : RI rd ru u l (.inr x) c3 c5) : Rn (F_42 c3 c5 ru (nI cn)) (fun q => (Kp [6, 7] c3 q.1 ∧ Oth rd c3 q.1 ∧ Kp [1, 2, 3, 4, 5] c5 q.2 ∧ Oth ru c5 q.2) ∧ ((kd u l (rP x) ≠ 18 ∧ RI rd ru u l (.inl (flt (rP x) 0)) q.1 q.2) ∨ (kd u l (rP x) = 18 ∧ cn = 12 ∧ RI rd ru u l (.inl (flt (rP x) 4)) q.1 q.2) ∨ (kd u l (rP x) = 18 ∧ cn < 12 ∧ ((∃ f, pcl u l x = .inl f ∧ RI rd ru u l (.inl f) q.1 q.2) ∨ (∃ y z b, pcl u l x = .inr (y, z, b) ∧ RI rd ru u l (.inr z) q.1 q.2 ∧ cA q.2 4 ru = upd (cA c5 4 ru) cn (nI (rK y)) ∧ cA q.2 5 ru = upd (cA c5 5 ru) cn (nI (rK z))))))) := by
  have e0 : cR c5 0 ru = rd := h.2.2.2.2.2.2
  have kb := kd_b (l := l) (p := rP x) hu
  unfold F_42
  rw [e0]
  refine rn_e (f_29 h.1.1) (rn_b (P := fun q => (Kp [6, 7] c3 q.1 ∧ Oth rd c3 q.1 ∧ Kp [1, 2, 3, 4, 5] c5 q.2 ∧ Oth ru c5 q.2) ∧ ((kd u l (rP x) ≠ 18 ∧ RI rd ru u l (.inl (flt (rP x) 0)) q.1 q.2) ∨ (kd u l (rP x) = 18 ∧ cn = 12 ∧ RI rd ru u l (.inl (flt (rP x) 4)) q.1 q.2) ∨ (kd u l (rP x) = 18 ∧ cn < 12 ∧ ((∃ f, pcl u l x = .inl f ∧ RI rd ru u l (.inl f) q.1 q.2) ∨ (∃ y z b, pcl u l x = .inr (y, z, b) ∧ RI rd ru u l (.inr z) q.1 q.2 ∧ cA q.2 4 ru = upd (cA c5 4 ru) cn (nI (rK y)) ∧ cA q.2 5 ru = upd (cA c5 5 ru) cn (nI (rK z))))))) ?_ (fun t ht => rn_r ht))
  by_cases k18 : kd u l (rP x) = 18
  · refine rn_p (by rw [k18]; rfl) ?_
    by_cases w : cn < 12
    · refine rn_p (show nI cn < nI 12 from nI_lt w (by decide)) (rn_b (f_31x h) (fun c3a ⟨⟨a1, a2⟩, a3⟩ => rn_b (f_48 hu l4 a3) (fun q ⟨q1, q2⟩ => ?_)))
      have q2' : RI rd ru u l (psum u l (pskx u l x)) q.1 q.2 := q2
      have fr1 : Fr rd ru c3 c5 q.1 q.2 := fr_tr ⟨a1, a2, kp_rf _ _, oth_rf _ _⟩ q1
      refine rn_st (by omega) (by decide) ?_
      obtain ⟨d1, hd1⟩ : ∃ d1, d1 = sA q.2 4 ru (upd (cA q.2 4 ru) cn (cI q.2 2 ru)) := ⟨_, rfl⟩
      rw [← hd1]
      have k1 : Kp [4, 5] q.2 d1 := by rw [hd1]; exact kp_A (by decide)
      have o1 : Oth ru q.2 d1 := by rw [hd1]; exact oth_A
      have R1 := RI_45 k1 q2'
      obtain ⟨e0', -⟩ := RI_p R1
      rw [e0']
      have k5 : cA q.2 4 ru = cA c5 4 ru := by rw [(fr1.2.2.1 4 (by decide)).2.2.2.1]
      have k6 : cA q.2 5 ru = cA c5 5 ru := by rw [(fr1.2.2.1 5 (by decide)).2.2.2.1]
      refine rn_b (f_32x (w := 19) hu (by decide) R1) (fun q3 ⟨⟨b1, b2⟩, b3⟩ => ?_)
      -- the end of a clause
      have fin : ∀ (c3b c5b : Cl) (r : Pr), Kp [6, 7] c3 c3b → Oth rd c3 c3b → Kp [1, 2, 3, 4, 5] c5 c5b → Oth ru c5 c5b → cA c5b 4 ru = cA d1 4 ru → cA c5b 5 ru = cA c5 5 ru → RI rd ru u l r c3b c5b → (∀ f, r = .inl f → pcl u l x = .inl f) → (∀ z, r = .inr z → ∃ y b, pcl u l x = .inr (y, z, b) ∧ cA d1 4 ru = upd (cA c5 4 ru) cn (nI (rK y))) → Rn (ast c5b 5 ru 12 (nI cn) (cI c5b 2 ru) >>= fun c5_14 => some (c3b, c5_14)) (fun q => (Kp [6, 7] c3 q.1 ∧ Oth rd c3 q.1 ∧ Kp [1, 2, 3, 4, 5] c5 q.2 ∧ Oth ru c5 q.2) ∧ ((kd u l (rP x) ≠ 18 ∧ RI rd ru u l (.inl (flt (rP x) 0)) q.1 q.2) ∨ (kd u l (rP x) = 18 ∧ cn = 12 ∧ RI rd ru u l (.inl (flt (rP x) 4)) q.1 q.2) ∨ (kd u l (rP x) = 18 ∧ cn < 12 ∧ ((∃ f, pcl u l x = .inl f ∧ RI rd ru u l (.inl f) q.1 q.2) ∨ (∃ y z b, pcl u l x = .inr (y, z, b) ∧ RI rd ru u l (.inr z) q.1 q.2 ∧ cA q.2 4 ru = upd (cA c5 4 ru) cn (nI (rK y)) ∧ cA q.2 5 ru = upd (cA c5 5 ru) cn (nI (rK z))))))) := fun c3b c5b r g1 g2 g3 g4 g5 g6 g7 g8 g9 => by
        refine rn_st (by omega) (by decide) (rn_r ⟨⟨g1, g2, kp_tr g3 (kp_A (by decide)), oth_tr g4 oth_A⟩, Or.inr (Or.inr ⟨k18, w, ?_⟩)⟩)
        have kA : Kp [4, 5] c5b (sA c5b 5 ru (upd (cA c5b 5 ru) cn (cI c5b 2 ru))) := kp_A (by decide)
        cases r with
        | inl f => exact Or.inl ⟨f, g8 f rfl, RI_45 kA g7⟩
        | inr z =>
          obtain ⟨y, b, i1, i2⟩ := g9 z rfl
          refine Or.inr ⟨y, z, b, i1, RI_45 kA g7, ?_, ?_⟩
          · rw [cA_ne (show 4 ≠ 5 by decide), g5]; exact i2
          · rw [cA_same, g6, g7.2.1]
      have k1w : Kp [1, 2, 3, 4, 5] c5 d1 := kp_tr (kp_wd fr1.2.2.1 (by decide)) (kp_wd k1 (by decide))
      have o1w : Oth ru c5 d1 := oth_tr fr1.2.2.2 o1
      have e15 : cA d1 5 ru = cA c5 5 ru := by rw [hd1, cA_ne (show 5 ≠ 4 by decide)]; exact k6
      have e14 : ∀ y, psum u l (pskx u l x) = .inr y → cA d1 4 ru = upd (cA c5 4 ru) cn (nI (rK y)) := fun y hy => by
        rw [hy] at q2'
        rw [hd1, cA_same, k5, q2'.2.1]
      rcases b3 with ⟨b3, y, hy, hk, hr⟩ | ⟨b3, b4, b5⟩
      · refine rn_b (P := fun (t12 : Cl × Cl) => (Kp [6, 7] c3 t12.1 ∧ Oth rd c3 t12.1 ∧ Kp [1, 2, 3, 4, 5] c5 t12.2 ∧ Oth ru c5 t12.2) ∧ cA t12.2 4 ru = cA d1 4 ru ∧ cA t12.2 5 ru = cA c5 5 ru ∧ RI rd ru u l (ptest u l (pskx u l y)) t12.1 t12.2) (rn_n (by rw [b3]; decide) (rn_b (f_44 hu l4 hr) (fun q4 ⟨d2, d3⟩ => rn_r ⟨⟨kp_tr (kp_tr fr1.1 b1) d2.1, oth_tr (oth_tr fr1.2.1 b2) d2.2.1, kp_tr k1w (kp_wd d2.2.2.1 (by decide)), oth_tr o1w d2.2.2.2⟩, by rw [(d2.2.2.1 4 (by decide)).2.2.2.1], by rw [(d2.2.2.1 5 (by decide)).2.2.2.1]; exact e15, (show RI rd ru u l (ptest u l (pskx u l y)) q4.1 q4.2 from d3)⟩))) (fun t12 ⟨⟨g1, g2, g3, g4⟩, g5, g6, g7⟩ => ?_)
        refine fin t12.1 t12.2 _ g1 g2 g3 g4 g5 g6 g7 (fun f hf => ?_) (fun z hz => ⟨y, true, ?_, e14 y hy⟩)
        · unfold pcl; rw [hy]
          show (if kd u l (rP y) = 19 then _ else _) = _
          rw [if_pos hk, hf]
        · unfold pcl; rw [hy]
          show (if kd u l (rP y) = 19 then _ else _) = _
          rw [if_pos hk, hz]
      · refine rn_b (P := fun t12 => t12 = (q.1, d1)) (rn_p b3 (rn_r (by rw [b4]))) (fun t12 ht => ?_)
        subst ht
        refine fin q.1 d1 _ fr1.1 fr1.2.1 k1w o1w rfl e15 R1 (fun f hf => ?_) (fun z hz => ⟨z, false, ?_, e14 z hz⟩)
        · unfold pcl; rw [hf]
        · unfold pcl; rw [hz]
          exact if_neg (b5 z hz)
    · refine rn_n (show ¬ nI cn < nI 12 from nI_nlt (by omega) (by omega)) (rn_b (f_28x (w := 4) l4 (by decide) h) (fun c3a ⟨⟨a1, a2⟩, a3⟩ => rn_r ⟨⟨a1, a2, kp_rf _ _, oth_rf _ _⟩, Or.inr (Or.inl ⟨k18, by omega, a3⟩)⟩))
  · refine rn_n (fun z => k18 ((nI_eq (a := kd u l (rP x)) (b := 18) (by omega) (by omega)).mp z)) (rn_b (f_28x (w := 0) l4 (by decide) h) (fun c3a ⟨⟨a1, a2⟩, a3⟩ => rn_r ⟨⟨a1, a2, kp_rf _ _, oth_rf _ _⟩, Or.inl ⟨k18, a3⟩⟩))
/-- rows of clauses -/
def rwc (c c' : Cl) (B2 t cn a b d e : Nat) (w : Int32) : Prop := cA c' 5 B2 (48 * t + 4 * cn) = nI a ∧ cA c' 5 B2 (48 * t + 4 * cn + 1) = nI b ∧ cA c' 5 B2 (48 * t + 4 * cn + 2) = w ∧ cA c' 5 B2 (48 * t + 4 * cn + 3) = nI e ∧ (∀ j, (j < 48 * t + 4 * cn ∨ 48 * t + 4 * cn + 4 ≤ j) → cA c' 5 B2 j = cA c 5 B2 j) ∧ cA c' 6 B2 = upd (cA c 6 B2) t (nI (cn + 1))
abbrev CK : List Nat := [3, 4, 5, 6, 8, 9, 10, 12, 13, 15, 16]
theorem RQ_56 {c' : Cl} (k : Kp [5, 6] c c') (h : RQ B2 t u l c x) : RQ B2 t u l c' x := by
  obtain ⟨⟨n, hR, hn⟩, h1, h2, h3, h4, h5⟩ := h
  exact ⟨⟨n, RP_k k (by decide) (by decide) (by decide) hR, hn⟩, by rw [(k 9 (by decide)).1]; exact h1, by rw [(k 11 (by decide)).1]; exact h2, by rw [(k 4 (by decide)).2.2.2.1]; exact h3, by rw [(k 12 (by decide)).1]; exact h4, fun i hi => by rw [(k 3 (by decide)).2.2.2.1]; exact h5 i hi⟩
theorem fq_cr {a b : Cl} (h : FQ B2 t TK a b) : FQ B2 t CK a b := fq_wd h (by decide)
/-- the reference's clause -/
theorem f_198 (hu : ∀ j, u j < 256) (l4 : l ≤ 400) (ht : t < 6) (hcn : cn < 12) (h : RQ B2 t u l c x) (hs : SL l 0 x) (h6 : cA c 6 B2 t = nI cn) (hk : kd u l (rP x) = 18) (hP : RP c B2 u l (rP x)) : Rn (F_198 c B2) (fun q => FQ B2 t CK c q.2 ∧ ((∃ f, pcl u l x = .inl f ∧ q.1 = 0 ∧ cI q.2 9 B2 = nI f ∧ (∀ j, (j < 48 * t ∨ 48 * t + 48 ≤ j) → cA q.2 5 B2 j = cA c 5 B2 j) ∧ cA q.2 6 B2 = cA c 6 B2) ∨ (∃ y z b, pcl u l x = .inr (y, z, b) ∧ q.1 = 1 ∧ RQ B2 t u l q.2 z ∧ rwc c q.2 B2 t cn (rK x) (rK y) 0 (rK z) (if b = true then nI (rK y) else -1)))) := by
  obtain ⟨pl, -, hle⟩ := kd_wl (p := rP x) (i := 18) hu (by decide) hk
  obtain ⟨c1, a1, a2, a3⟩ := f_181 hu l4 hP
  have Q1 : RQ B2 t u l c1 (pskx u l x) := RQ_8 (x := x) a2 a3 hle.symm rfl rfl rfl h
  have e11 : cI c1 11 B2 = nI t := Q1.2.2.1
  have e6 : cA c1 6 B2 = cA c 6 B2 := by rw [(a2 6 (by decide)).2.2.2.1]
  have e5 : cA c1 5 B2 = cA c 5 B2 := by rw [(a2 5 (by decide)).2.2.2.1]
  have ix : (48 : Int32) * nI t + 4 * nI cn = nI (48 * t + 4 * cn) := by
    rw [show (48 : Int32) * nI t = nI (48 * t) from pk_mul 48 t, show (4 : Int32) * nI cn = nI (4 * cn) from pk_mul 4 cn, nI_add]
  have ixk : ∀ k : Nat, nI (48 * t + 4 * cn) + nI k = nI (48 * t + 4 * cn + k) := fun k => nI_add _ k
  unfold F_198
  refine rn_e a1 ?_
  rw [e11]
  refine rn_e (v := nI cn) ((ald_ok (by omega) (by decide)).trans (by rw [e6, h6])) (rn_e (v := nI (rK x)) ((ald_ok (by omega) (by decide)).trans (by rw [Q1.2.2.2.1]; rfl)) ?_)
  rw [ix]
  refine rn_st (by omega) (by decide) ?_
  obtain ⟨d1, hd1⟩ : ∃ d1, d1 = sA c1 5 B2 (upd (cA c1 5 B2) (48 * t + 4 * cn) (nI (rK x))) := ⟨_, rfl⟩
  rw [← hd1]
  have k1 : Kp [5, 6] c1 d1 := by rw [hd1]; exact kp_A (by decide)
  have r1 : cA d1 5 B2 = upd (cA c 5 B2) (48 * t + 4 * cn) (nI (rK x)) := by rw [hd1, cA_same, e5]
  have f1 : FQ B2 t CK c d1 := fq_tr (fq_k a2 (by decide) (by decide)) (fq_k k1 (by decide) (by decide))
  have r16 : cA d1 6 B2 = cA c 6 B2 := by rw [hd1, cA_ne (show 6 ≠ 5 by decide)]; exact e6
  refine rn_b (f_192 (j := 1) hu l4 ht (RQ_56 k1 Q1) (sl_sk (u := u) pl hs)) (fun q ⟨q1, q2⟩ => ?_)
  have rq : cA q.2 5 B2 = cA d1 5 B2 := by rw [(q1.1 5 (by decide)).2.2.2.1]
  have rq6 : cA q.2 6 B2 = cA c 6 B2 := by rw [(q1.1 6 (by decide)).2.2.2.1]; exact r16
  have f2 : FQ B2 t CK c q.2 := fq_tr f1 (fq_wd q1 (by decide))
  have out1 : ∀ j, (j < 48 * t ∨ 48 * t + 48 ≤ j) → upd (cA c 5 B2) (48 * t + 4 * cn) (nI (rK x)) j = cA c 5 B2 j := fun j hj => pk_un (by omega)
  cases h1 : psum u l (pskx u l x) with
  | inl f =>
    rw [h1] at q2
    refine rn_p q2.1 (rn_r ⟨f2, Or.inl ⟨f, by unfold pcl; rw [h1], rfl, q2.2, fun j hj => ?_, rq6⟩⟩)
    show cA q.2 5 B2 j = _
    rw [rq, r1]; exact out1 j hj
  | inr y =>
    rw [h1] at q2
    have Qy : RQ B2 t u l q.2 y := q2.2
    have sly := (psum_ms l4 (sl_sk (u := u) pl hs) h1).1
    refine rn_n (by rw [q2.1]; decide) ?_
    rw [Qy.2.2.1]
    refine rn_e (v := nI (rK y)) ((ald_ok (by omega) (by decide)).trans (by rw [Qy.2.2.2.1])) ?_
    rw [show nI (48 * t + 4 * cn) + 1 = nI (48 * t + 4 * cn + 1) from ixk 1, show nI (48 * t + 4 * cn) + 2 = nI (48 * t + 4 * cn + 2) from ixk 2]
    refine rn_st (by omega) (by decide) (rn_st (by omega) (by decide) ?_)
    obtain ⟨d2, hd2⟩ : ∃ d2, d2 = sA q.2 5 B2 (upd (cA q.2 5 B2) (48 * t + 4 * cn + 1) (nI (rK y))) := ⟨_, rfl⟩
    rw [← hd2]
    obtain ⟨d3, hd3⟩ : ∃ d3, d3 = sA d2 5 B2 (upd (cA d2 5 B2) (48 * t + 4 * cn + 2) (-1)) := ⟨_, rfl⟩
    rw [← hd3]
    have k3 : Kp [5, 6] q.2 d3 := by rw [hd3, hd2]; exact kp_tr (kp_A (by decide)) (kp_A (by decide))
    have r3 : cA d3 5 B2 = upd (upd (cA d1 5 B2) (48 * t + 4 * cn + 1) (nI (rK y))) (48 * t + 4 * cn + 2) (-1) := by rw [hd3, cA_same, hd2, cA_same, rq]
    have r36 : cA d3 6 B2 = cA c 6 B2 := by rw [hd3, cA_ne (show 6 ≠ 5 by decide), hd2, cA_ne (show 6 ≠ 5 by decide)]; exact rq6
    have Q3 := RQ_56 k3 Qy
    have f3 : FQ B2 t CK c d3 := fq_tr f2 (fq_k k3 (by decide) (by decide))
    obtain ⟨⟨n3, R3, hn3⟩, -⟩ := id Q3
    -- the end of a clause
    have fin : ∀ (c9 : Cl) (z : Ps) (b : Bool), pcl u l x = .inr (y, z, b) → FQ B2 t CK c c9 → RQ B2 t u l c9 z → cA c9 5 B2 (48 * t + 4 * cn) = nI (rK x) → cA c9 5 B2 (48 * t + 4 * cn + 1) = nI (rK y) → cA c9 5 B2 (48 * t + 4 * cn + 2) = (if b = true then nI (rK y) else -1) → (∀ j, (j < 48 * t + 4 * cn ∨ 48 * t + 4 * cn + 4 ≤ j) → cA c9 5 B2 j = cA c 5 B2 j) → cA c9 6 B2 = cA c 6 B2 → Rn (G_198 c9 B2 0 [nI (48 * t + 4 * cn)] [] []) (fun q => FQ B2 t CK c q.2 ∧ ((∃ f, pcl u l x = .inl f ∧ q.1 = 0 ∧ cI q.2 9 B2 = nI f ∧ (∀ j, (j < 48 * t ∨ 48 * t + 48 ≤ j) → cA q.2 5 B2 j = cA c 5 B2 j) ∧ cA q.2 6 B2 = cA c 6 B2) ∨ (∃ y z b, pcl u l x = .inr (y, z, b) ∧ q.1 = 1 ∧ RQ B2 t u l q.2 z ∧ rwc c q.2 B2 t cn (rK x) (rK y) 0 (rK z) (if b = true then nI (rK y) else -1)))) := fun c9 z b g1 g2 g3 g4 g5 g6 g7 g8 => by
      rw [G_198, g3.2.2.1]
      refine rn_e (v := nI (rK z)) ((ald_ok (by omega) (by decide)).trans (by rw [g3.2.2.2.1])) ?_
      rw [show nI (48 * t + 4 * cn) + 3 = nI (48 * t + 4 * cn + 3) from ixk 3]
      refine rn_st (by omega) (by decide) ?_
      rw [show cI (sA c9 5 B2 (upd (cA c9 5 B2) (48 * t + 4 * cn + 3) (nI (rK z)))) 11 B2 = nI t from g3.2.2.1, cA_ne (show 6 ≠ 5 by decide)]
      refine rn_e (v := nI cn) ((ald_ok (by omega) (by decide)).trans (by rw [g8, h6])) (rn_st (by omega) (by decide) (rn_r ⟨fq_tr g2 (fq_k (Ks := [5, 6]) (kp_tr (kp_A (by decide)) (kp_A (by decide))) (by decide) (by decide)), Or.inr ⟨y, z, b, g1, rfl, RQ_56 (kp_tr (kp_A (by decide)) (kp_A (by decide))) g3, ?_, ?_, ?_, ?_, fun j hj => ?_, ?_⟩⟩))
      · rw [cA_ne (show 5 ≠ 6 by decide), cA_same, pk_un (by omega)]; exact g4
      · rw [cA_ne (show 5 ≠ 6 by decide), cA_same, pk_un (by omega)]; exact g5
      · rw [cA_ne (show 5 ≠ 6 by decide), cA_same, pk_un (by omega)]; exact g6
      · rw [cA_ne (show 5 ≠ 6 by decide), cA_same, pk_us]
      · rw [cA_ne (show 5 ≠ 6 by decide), cA_same, pk_un (by omega)]; exact g7 j hj
      · rw [cA_same, cA_ne (show 6 ≠ 5 by decide), g8, nI_1]
    have p0 : ∀ j, cA d3 5 B2 j = upd (upd (upd (cA c 5 B2) (48 * t + 4 * cn) (nI (rK x))) (48 * t + 4 * cn + 1) (nI (rK y))) (48 * t + 4 * cn + 2) (-1) j := fun j => by rw [r3, r1]
    obtain ⟨g, g1, g2, g3, g4⟩ := f_180p (c := d3) (B2 := B2) (w := 26982) (i := 19) hu l4 (by decide) rfl R3 hn3
    unfold F_182
    rw [g1]
    rcases g4 with ⟨g4, g5⟩ | ⟨g4, g5⟩
    · obtain ⟨hp19, -, hle19⟩ := kd_wl (p := rP y) (i := 19) hu (by decide) g4
      obtain ⟨m, m1, m2, m3⟩ := f_181 hu l4 g3
      have km : Kp [8] d3 m := kp_tr g2 m2
      have Qm : RQ B2 t u l m (pskx u l y) := RQ_8 (x := y) km m3 hle19.symm rfl rfl rfl Q3
      refine rn_e (v := (1, m)) (in_neg (by rw [g5]; decide) (ob_mk m1 rfl)) (rn_n (by show ¬ (1 : Int32) = 0; decide) ?_)
      show Rn (ald (cA m 4 B2) 7 (cI m 11 B2) >>= fun v12 => ast m 5 B2 288 (nI (48 * t + 4 * cn + 2)) v12 >>= fun c12_13 => F_197 c12_13 B2 >>= fun r14 => if r14.1 = 0 then some (0, r14.2) else G_198 r14.2 B2 0 [nI (48 * t + 4 * cn)] [] []) _
      rw [Qm.2.2.1]
      refine rn_e (v := nI (rK y)) ((ald_ok (by omega) (by decide)).trans (by rw [Qm.2.2.2.1]; rfl)) (rn_st (by omega) (by decide) ?_)
      obtain ⟨d4, hd4⟩ : ∃ d4, d4 = sA m 5 B2 (upd (cA m 5 B2) (48 * t + 4 * cn + 2) (nI (rK y))) := ⟨_, rfl⟩
      rw [← hd4]
      have k4 : Kp [5, 6] m d4 := by rw [hd4]; exact kp_A (by decide)
      have r4 : cA d4 5 B2 = upd (cA d3 5 B2) (48 * t + 4 * cn + 2) (nI (rK y)) := by rw [hd4, cA_same, (km 5 (by decide)).2.2.2.1]
      have r46 : cA d4 6 B2 = cA c 6 B2 := by rw [hd4, cA_ne (show 6 ≠ 5 by decide), (km 6 (by decide)).2.2.2.1]; exact r36
      have f4 : FQ B2 t CK c d4 := fq_tr f3 (fq_tr (fq_k km (by decide) (by decide)) (fq_k k4 (by decide) (by decide)))
      refine rn_b (f_197 (j := 1) hu l4 ht (RQ_56 k4 Qm) (sl_le (sl_sk (u := u) hp19 sly) (by omega))) (fun qq ⟨i1, i2⟩ => ?_)
      have f5 : FQ B2 t CK c qq.2 := fq_tr f4 (fq_cr i1)
      have r5 : cA qq.2 5 B2 = cA d4 5 B2 := by rw [(i1.1 5 (by decide)).2.2.2.1]
      have r56 : cA qq.2 6 B2 = cA c 6 B2 := by rw [(i1.1 6 (by decide)).2.2.2.1]; exact r46
      have ep : pcl u l x = (match ptest u l (pskx u l y) with | .inl f => .inl f | .inr z => .inr (y, z, true)) := by
        unfold pcl; rw [h1]; exact if_pos g4
      cases h2 : ptest u l (pskx u l y) with
      | inl f =>
        rw [h2] at i2 ep
        refine rn_p i2.1 (rn_r ⟨f5, Or.inl ⟨f, ep, rfl, i2.2, fun j hj => ?_, r56⟩⟩)
        show cA qq.2 5 B2 j = _
        rw [r5, r4, pk_un (by omega), p0, pk_un (by omega), pk_un (by omega), pk_un (by omega)]
      | inr z =>
        rw [h2] at i2 ep
        refine rn_n (by rw [i2.1]; decide) (fin qq.2 z true ep f5 i2.2 ?_ ?_ ?_ (fun j hj => ?_) r56)
        · rw [r5, r4, pk_un (by omega), p0, pk_un (by omega), pk_un (by omega), pk_us]
        · rw [r5, r4, pk_un (by omega), p0, pk_un (by omega), pk_us]
        · rw [r5, r4, pk_us]; rfl
        · rw [r5, r4, pk_un (by omega), p0, pk_un (by omega), pk_un (by omega), pk_un (by omega)]
    · have ep : pcl u l x = .inr (y, y, false) := by unfold pcl; rw [h1]; exact if_neg g4
      refine rn_e (v := (0, g.2)) (in_pos g5 rfl) (rn_p rfl ?_)
      have pp : sk u l (rP y) = rP y := by rw [← hn3]; exact sk_sk
      have Qg : RQ B2 t u l g.2 y := RQ_8 (x := y) g2 g3 pp rfl rfl rfl Q3
      have rg : cA g.2 5 B2 = cA d3 5 B2 := by rw [(g2 5 (by decide)).2.2.2.1]
      refine fin g.2 y false ep (fq_tr f3 (fq_k g2 (by decide) (by decide))) Qg ?_ ?_ ?_ (fun j hj => ?_) (by rw [(g2 6 (by decide)).2.2.2.1]; exact r36)
      · rw [rg, p0, pk_un (by omega), pk_un (by omega), pk_us]
      · rw [rg, p0, pk_un (by omega), pk_us]
      · rw [rg, p0, pk_us]; rfl
      · rw [rg, p0, pk_un (by omega), pk_un (by omega), pk_un (by omega)]
end RClause
