/-! ===== rules: the whole text; a rule is made ===== -/
def n13 (c13 c5 : Cl) (ru X : Nat) : Cl := sA (sA (sA c13 0 (X + 1) (cpf 400 (cA c5 1 ru))) 0 (X + 2) (cpf 12 (cA c5 4 ru))) 0 (X + 3) (cpf 12 (cA c5 5 ru))
def nDr (d : Ad) (k cn : Nat) : Ad := nD_4 (adn (adn (adn (adr d 4) 1 k) 1 cn) 1 cn) (aX d) (aX d + 1) (aX d + 2) (aX d + 3)
def RRo (rd ru B2 t : Nat) (c3 c4 c5 c12 c13 : Cl) (d : Ad) (rx : Option Nat × Cl × Cl × Cl × Cl × Ad) (rm : Int32 × Cl) : Prop := FC B2 t c12 rm.2 ∧ cI rm.2 1 B2 = 0 ∧ FDr rd ru c3 c5 rx.2.1 rx.2.2.2.1 ∧ ((rm.1 = 1 ∧ ∃ x cn b e, JF t rx.2.2.2.1 rm.2 ru B2 x cn b e ∧ rx.1 = some (aX d) ∧ rx.2.2.1 = nC_4 c4 (aX d) (aX d + 1) (aX d + 2) (aX d + 3) ∧ rx.2.2.2.2.1 = n13 c13 rx.2.2.2.1 ru (aX d) ∧ rx.2.2.2.2.2 = nDr d (rK x) cn) ∨ (rm.1 = 0 ∧ rx.1 = none ∧ rx.2.2.1 = c4 ∧ rx.2.2.2.2.1 = c13 ∧ rx.2.2.2.2.2 = d ∧ ∃ f, cI rx.2.1 7 rd = nI f ∧ cI rm.2 9 B2 = nI f))
section RAll
variable {c c3 c4 c5 c11 c12 c13 : Cl} {d : Ad} {B2 t rd ru : Nat} {u : Nat → Nat} {l : Nat} {x : Ps} {cn : Nat} {b e : Nat → Nat}
theorem mk_rule {k : Nat} (h7 : cI c3 7 rd = 0) (e0 : cR c5 0 ru = rd) (hk : cI c5 2 ru = nI k) (k4 : k ≤ 400) (hcn : cn ≤ 12) : G_41 c4 c11 c13 d ru 1 [nI cn] [] [] c3 c5 = some (some (aX d), c3, nC_4 c4 (aX d) (aX d + 1) (aX d + 2) (aX d + 3), c5, n13 c13 c5 ru (aX d), nDr d k cn) := by
  have nw : ∀ (c : Cl) (d : Ad) (n0 n : Nat) (f : Nat → Int32), n ≤ 400 → nwC c d n0 f (nI n) = some (sA c 0 (aX d) (cpf n0 f), adn d 1 n) := fun c d n0 n f hn => by
    unfold nwC
    rw [nI_clamp (by omega), if_neg]
    rintro (z | z)
    · exact absurd z (nI_pos (by omega))
    · omega
  rw [G_41, e0]
  refine in_pos h7 (in_pos (show nI cn ≤ nI 12 from nI_le hcn (by decide)) ?_)
  rw [hk]
  exact ob_mk (nw _ _ _ _ _ k4) (ob_mk (nw _ _ _ _ _ (by omega)) (ob_mk (nw _ _ _ _ _ (by omega)) (ob_mk rfl rfl)))
theorem rl_bad {v : Int32} {f : Nat} (hu : ∀ j, u j < 256) (l4 : l ≤ 400) (hI : RI rd ru u l (.inl f) c3 c5) (hf : cI c12 9 B2 = nI f) : ∃ rx rm, (F_33 c3 rd >>= fun r9 => G_41 c4 c11 c13 d ru 0 [v, r9.1] [] [] r9.2 c5) = some rx ∧ G_210 B2 0 [0] [] [] c12 = some rm ∧ RRo rd ru B2 t c3 c4 c5 c12 c13 d rx rm := by
  obtain ⟨⟨p, hp⟩, f1, f2, f3, -, -, e0⟩ := id hI
  have nz : ¬ cI c3 7 rd = 0 := by rw [f1]; exact nI_ne0 (by omega) (by omega)
  have nzm : ¬ cI c12 9 B2 = 0 := by rw [hf]; exact nI_ne0 (by omega) (by omega)
  obtain ⟨r, r1, r2, r3, r4⟩ := f_33 hu l4 hp
  rcases r4 with ⟨z, _⟩ | ⟨z, _⟩ | ⟨z, _⟩ | ⟨_, b, _, e⟩
  · exact absurd z nz
  · exact absurd z nz
  · exact absurd z nz
  have g1 : G_41 c4 c11 c13 d ru 1 [v] [] [] r.2 c5 = some (none, r.2, c4, c5, c13, d) := by
    rw [G_41, e0]
    exact in_neg (by rw [e]; exact nz) rfl
  have g0 : G_41 c4 c11 c13 d ru 0 [v, r.1] [] [] r.2 c5 = some (none, r.2, c4, c5, c13, d) := by
    rw [G_41]
    by_cases w : 12 < v
    · exact in_pos w g1
    · exact in_neg w (in_pos b g1)
  have m1 : G_210 B2 1 [0] [] [] c12 = some (0, sI c12 1 B2 0) := by
    rw [G_210]
    refine ob_mk (v := c12) (if_pos rfl) (ob_mk rfl (ob_mk (v := (0 : Int32)) (if_neg ?_) rfl))
    rw [cI_sI, if_neg (fun z => absurd z.1 (by decide))]; exact nzm
  refine ⟨(none, r.2, c4, c5, c13, d), (0, sI c12 1 B2 0), ob_mk r1 g0, by rw [G_210]; exact in_pos rfl m1, fc_k (Ks := [1]) (kp_I (by decide)) (by decide) (by decide) (by decide) (by decide), by rw [cI_same], ⟨r2, r3, kp_rf _ _, oth_rf _ _⟩, Or.inr ⟨rfl, rfl, rfl, rfl, rfl, f, ?_, ?_⟩⟩
  · show cI r.2 7 rd = nI f
    rw [e]; exact f1
  · show cI (sI c12 1 B2 0) 9 B2 = nI f
    rw [cI_sI, if_neg (fun z => absurd z.1 (by decide))]; exact hf
theorem JF_k {c12' : Cl} (k : Kp [1, 8, 9] c12 c12') (h : JF t c5 c12 ru B2 x cn b e) : JF t c5 c12' ru B2 x cn b e := by
  obtain ⟨h1, h2, h3, h4, h5, ⟨h6, h7, h8⟩, h9⟩ := h
  have a3 : cA c12' 3 B2 = cA c12 3 B2 := by rw [(k 3 (by decide)).2.2.2.1]
  have a5 : cA c12' 5 B2 = cA c12 5 B2 := by rw [(k 5 (by decide)).2.2.2.1]
  have a6 : cA c12' 6 B2 = cA c12 6 B2 := by rw [(k 6 (by decide)).2.2.2.1]
  exact ⟨h1, h2, h3, fun i hi => by rw [a3]; exact h4 i hi, h5, ⟨by rw [a6]; exact h6, h7, h8⟩, fun i hi => by rw [a5]; exact h9 i hi⟩
theorem rl_loop (hu : ∀ j, u j < 256) (l4 : l ≤ 400) (ht : t < 6) : ∀ (m cn : Nat) (x : Ps) (b e : Nat → Nat) (c3 c5 c12 : Cl), cn + m = 12 → JR rd ru B2 t u l c3 c5 c12 x cn b e → ∃ rx rm, (F_33 c3 rd >>= fun r9 => G_41 c4 c11 c13 d ru 0 [nI cn, r9.1] [] [] r9.2 c5) = some rx ∧ G_210 B2 0 [1] [] [] c12 = some rm ∧ RRo rd ru B2 t c3 c4 c5 c12 c13 d rx rm := fun m => by
  have key : ∀ (cn : Nat) (x : Ps) (b e : Nat → Nat) (c3 c5 c12 : Cl), cn ≤ 12 → JR rd ru B2 t u l c3 c5 c12 x cn b e → (∀ (x' : Ps) (b' e' : Nat → Nat) (c3' c5' c12' : Cl), cn < 12 → JR rd ru B2 t u l c3' c5' c12' x' (cn + 1) b' e' → ∃ rx rm, (F_33 c3' rd >>= fun r9 => G_41 c4 c11 c13 d ru 0 [nI (cn + 1), r9.1] [] [] r9.2 c5') = some rx ∧ G_210 B2 0 [1] [] [] c12' = some rm ∧ RRo rd ru B2 t c3' c4 c5' c12' c13 d rx rm) → ∃ rx rm, (F_33 c3 rd >>= fun r9 => G_41 c4 c11 c13 d ru 0 [nI cn, r9.1] [] [] r9.2 c5) = some rx ∧ G_210 B2 0 [1] [] [] c12 = some rm ∧ RRo rd ru B2 t c3 c4 c5 c12 c13 d rx rm := fun cn x b e c3 c5 c12 hcn hJ rec => by
    obtain ⟨hX, hQ, hs, h14, hF⟩ := id hJ
    obtain ⟨⟨hd, h7⟩, q2, q3, q4, q5, q6, e0⟩ := id hX
    have pl := RD_le hd
    obtain ⟨r, x1, x2, x3, x4⟩ := f_33 hu l4 hd
    obtain ⟨s0, s1, s2, s3, s4, s5, s6⟩ := f_177q hu l4 hQ
    have pp : sk u l (rP x) = rP x := by obtain ⟨⟨n, _, hn⟩, _⟩ := hQ; rw [← hn]; exact sk_sk
    have h9 : cI c12 9 B2 = 0 := hQ.2.1
    have n12 : ¬ (12 : Int32) < nI cn := show ¬ nI 12 < nI cn from nI_nlt hcn (by decide)
    have sg59 : sgc 59 := by unfold sgc; omega
    rcases x4 with ⟨_, a, b', e', f⟩ | ⟨_, a, b', e', f⟩ | ⟨_, a, a2, b', e', f⟩ | ⟨z, _⟩
    · -- another clause
      have s59 : s0.1 = (59 : Int32) := (s5 59 sg59).mpr a
      obtain ⟨cm, hcm⟩ : ∃ cm, cm = sI s0.2 8 B2 ((cI s0.2 8 B2) + 1) := ⟨_, rfl⟩
      have k8 : Kp [8] s0.2 cm := by rw [hcm]; exact kp_I (by decide)
      have kc : Kp [8] c12 cm := kp_tr s2 k8
      have Qc : RQ B2 t u l cm (pskx u l x) := by rw [hcm]; exact adv_q sg59 s3 s4 a
      have hJ' : JR rd ru B2 t u l r.2 c5 cm (pskx u l x) cn b e := ⟨⟨⟨e', f⟩, q2, q3, q4, q5, q6, e0⟩, Qc, sl_skw hs, by rw [(kc 14 (by decide)).1]; exact h14, JF_k (x := x) (kp_wd kc (by decide)) hF⟩
      obtain ⟨rx, rm, g1, g2, g3, g4, g5⟩ := rcl_ok hu l4 ht hcn hJ'
      have fcm : FC B2 t c12 rm.2 := fc_tr (fc_k kc (by decide) (by decide) (by decide) (by decide)) g4
      have fd : FDr rd ru c3 c5 rx.1 rx.2 := fd_tr ⟨x2, x3, kp_rf _ _, oth_rf _ _⟩ g3
      have e0' : cR rx.2 0 ru = rd := by rw [(g3.2.2.1 0 (by decide)).2.2.1]; exact e0
      have hx : ∀ {y}, (F_33 rx.1 rd >>= fun r9 => G_41 c4 c11 c13 d ru 0 [nI (cn + 1), r9.1] [] [] r9.2 rx.2) = some y → (F_33 c3 rd >>= fun r9 => G_41 c4 c11 c13 d ru 0 [nI cn, r9.1] [] [] r9.2 c5) = some y := fun {y} ey => by
        refine ob_mk x1 ?_
        rw [b', G_41]
        refine in_neg n12 (in_neg (by decide) (ob_mk g1 ?_))
        rw [e0', nI_1]
        exact ey
      have hm : ∀ {y}, G_210 B2 0 [rm.1] [] [] rm.2 = some y → G_210 B2 0 [1] [] [] c12 = some y := fun {y} ey => by
        rw [G_210]
        exact in_neg (by decide) (ob_mk s1 (in_pos s59 (ob_mk (v := cm) (by rw [hcm]) (ob_mk g2 ey))))
      have comb : ∀ {y : Option Nat × Cl × Cl × Cl × Cl × Ad} {z : Int32 × Cl}, RRo rd ru B2 t rx.1 c4 rx.2 rm.2 c13 d y z → RRo rd ru B2 t c3 c4 c5 c12 c13 d y z := fun {y z} h => ⟨fc_tr fcm h.1, h.2.1, fd_tr fd h.2.2.1, h.2.2.2⟩
      rcases g5 with ⟨w1, w2, x', bb, ee, w3⟩ | ⟨w1, ff, w2, w3⟩
      · obtain ⟨y, z, y1, y2, y3⟩ := rec x' bb ee rx.1 rx.2 rm.2 w2 w3
        exact ⟨y, z, hx y1, hm (by rw [w1]; exact y2), comb y3⟩
      · obtain ⟨y, z, y1, y2, y3⟩ := rl_bad (c4 := c4) (c11 := c11) (c13 := c13) (d := d) (t := t) (v := nI (cn + 1)) hu l4 w2 w3
        exact ⟨y, z, hx y1, hm (by rw [w1]; exact y2), comb y3⟩
    · -- the end
      have lp := kd_35 a
      rw [if_neg (by omega)] at s6
      obtain ⟨s8, t1, t2, t3, t4, t5, t6⟩ := f_177q hu l4 s3
      rw [if_neg (show ¬ rP x < l by omega)] at t6
      have kc : Kp [8] c12 s8.2 := kp_tr s2 t2
      have g1 := mk_rule (c4 := c4) (c11 := c11) (c13 := c13) (d := d) (cn := cn) f e0 q2 q3 hcn
      have m1 : G_210 B2 1 [1] [] [] s0.2 = some (1, sI s8.2 1 B2 0) := by
        rw [G_210]
        refine ob_mk (v := s8.2) (in_neg (by decide) (ob_mk t1 (in_pos t6 rfl))) (ob_mk rfl (ob_mk (v := (1 : Int32)) (if_pos ?_) rfl))
        rw [cI_sI, if_neg (fun z => absurd z.1 (by decide)), (kc 9 (by decide)).1]; exact h9
      have kf : Kp [1, 8, 9] c12 (sI s8.2 1 B2 0) := kp_tr (kp_wd kc (by decide)) (kp_I (by decide))
      exact ⟨_, (1, sI s8.2 1 B2 0), ob_mk x1 (by rw [b', G_41]; exact in_neg n12 (in_pos rfl g1)), by rw [G_210]; exact in_neg (by decide) (ob_mk s1 (in_neg (by rw [s6]; decide) m1)), fc_k kf (by decide) (by decide) (by decide) (by decide), by rw [cI_same], ⟨x2, x3, kp_rf _ _, oth_rf _ _⟩, Or.inl ⟨rfl, x, cn, b, e, JF_k kf hF, rfl, rfl, rfl, rfl⟩⟩
    · -- something else
      have lp : rP x < l := kd_lt_l (u := u) (x := x) a2
      have u59 : u (rP x) ≠ 59 := fun z => a ((kd_ch sg59.1 sg59.2.1 sg59.2.2.1 sg59.2.2.2.1).mpr ⟨lp, z⟩)
      have ub := hu (rP x)
      rw [if_pos lp] at s6
      obtain ⟨s8, t1, t2, t3, t4, t5, t6⟩ := f_177q hu l4 s3
      rw [if_pos lp] at t6
      have kc : Kp [8] c12 s8.2 := kp_tr s2 t2
      obtain ⟨v, v1, v2, v3, v4, -⟩ := f_176 (c := s8.2) (B2 := B2) (w := 0) (p := rP x)
      have e9 := v4 (by rw [(kc 9 (by decide)).1]; exact h9)
      have nzf : ¬ nI (flt (rP x) 0) = 0 := flt_ne (by omega) (by decide)
      have g1 : G_41 c4 c11 c13 d ru 1 [nI cn] [] [] r.2 c5 = some (none, r.2, c4, c5, c13, d) := by
        rw [G_41, e0]; exact in_neg (by rw [f]; exact nzf) rfl
      have m1 : G_210 B2 1 [1] [] [] s0.2 = some (0, sI v.2 1 B2 0) := by
        rw [G_210]
        refine ob_mk (v := v.2) (in_neg (by decide) (ob_mk t1 (in_neg ?_ (ob_mk (v := v) ?_ rfl)))) (ob_mk rfl (ob_mk (v := (0 : Int32)) (if_neg ?_) rfl))
        · rw [t6]
          intro z
          have : ¬ (-1 : Int32) < 0 := by rw [← z]; exact nI_pos (by omega)
          exact this (by decide)
        · rw [t4.2.2.1]; exact v1
        · rw [cI_sI, if_neg (fun z => absurd z.1 (by decide)), e9]; exact nzf
      have kf : Kp [1, 8, 9] c12 (sI v.2 1 B2 0) := kp_tr (kp_wd kc (by decide)) (kp_tr (kp_wd v3 (by decide)) (kp_I (by decide)))
      refine ⟨(none, r.2, c4, c5, c13, d), (0, sI v.2 1 B2 0), ob_mk x1 (by rw [b', G_41]; exact in_neg n12 (in_pos rfl g1)), by rw [G_210]; exact in_neg (by decide) (ob_mk s1 (in_neg (by rw [s6]; exact fun z => u59 ((nI_eq (a := u (rP x)) (b := 59) (by omega) (by omega)).mp z)) m1)), fc_k kf (by decide) (by decide) (by decide) (by decide), by rw [cI_same], ⟨x2, x3, kp_rf _ _, oth_rf _ _⟩, Or.inr ⟨rfl, rfl, rfl, rfl, rfl, flt (rP x) 0, f, ?_⟩⟩
      show cI (sI v.2 1 B2 0) 9 B2 = _
      rw [cI_sI, if_neg (fun z => absurd z.1 (by decide))]; exact e9
    · exact absurd h7 z
  induction m with
  | zero => exact fun cn x b e c3 c5 c12 hc hJ => key cn x b e c3 c5 c12 (by omega) hJ (fun _ _ _ _ _ _ hc' _ => by omega)
  | succ m ih => exact fun cn x b e c3 c5 c12 hc hJ => key cn x b e c3 c5 c12 (by omega) hJ (fun x' b' e' c3' c5' c12' _ hJ' => ih (cn + 1) x' b' e' c3' c5' c12' (by omega) hJ')
/-- all clauses of a rule -/
theorem rl_all (hu : ∀ j, u j < 256) (l4 : l ≤ 400) (ht : t < 6) (h : JR rd ru B2 t u l c3 c5 c12 x 0 b e) : ∃ rx rm, G_41 c4 c11 c13 d ru 0 [0, 1] [] [] c3 c5 = some rx ∧ (F_209 c12 B2 >>= fun r6 => G_210 B2 0 [r6.1] [] [] r6.2) = some rm ∧ RRo rd ru B2 t c3 c4 c5 c12 c13 d rx rm := by
  obtain ⟨rx, rm, g1, g2, g3, g4, g5⟩ := rcl_ok hu l4 ht (Nat.zero_le _) h
  have e0 : cR c5 0 ru = rd := h.1.2.2.2.2.2.2
  have e0' : cR rx.2 0 ru = rd := by rw [(g3.2.2.1 0 (by decide)).2.2.1]; exact e0
  have hx : ∀ {y}, (F_33 rx.1 rd >>= fun r9 => G_41 c4 c11 c13 d ru 0 [nI 1, r9.1] [] [] r9.2 rx.2) = some y → G_41 c4 c11 c13 d ru 0 [0, 1] [] [] c3 c5 = some y := fun {y} ey => by
    rw [G_41]
    refine in_neg (by decide) (in_neg (by decide) (ob_mk g1 ?_))
    rw [e0']
    exact ey
  have comb : ∀ {y : Option Nat × Cl × Cl × Cl × Cl × Ad} {z : Int32 × Cl}, RRo rd ru B2 t rx.1 c4 rx.2 rm.2 c13 d y z → RRo rd ru B2 t c3 c4 c5 c12 c13 d y z := fun {y z} h => ⟨fc_tr g4 h.1, h.2.1, fd_tr g3 h.2.2.1, h.2.2.2⟩
  rcases g5 with ⟨w1, w2, x', bb, ee, w3⟩ | ⟨w1, ff, w2, w3⟩
  · obtain ⟨y, z, y1, y2, y3⟩ := rl_loop (c4 := c4) (c11 := c11) (c13 := c13) (d := d) hu l4 ht 11 1 x' bb ee rx.1 rx.2 rm.2 rfl w3
    exact ⟨y, z, hx y1, ob_mk g2 (by rw [w1]; exact y2), comb y3⟩
  · obtain ⟨y, z, y1, y2, y3⟩ := rl_bad (c4 := c4) (c11 := c11) (c13 := c13) (d := d) (t := t) (v := nI 1) hu l4 w2 w3
    exact ⟨y, z, hx y1, ob_mk g2 (by rw [w1]; exact y2), comb y3⟩
end RAll
