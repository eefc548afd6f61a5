/-! ===== rules: all clauses, both sides ===== -/
def Cls (t : Nat) (c5 c12 : Cl) (ru B2 : Nat) (x : Ps) (cn : Nat) (b e : Nat → Nat) : Prop := (cA c12 6 B2 t = nI cn ∧ cs e cn = rK x ∧ cn ≤ 12) ∧ ∀ i, i < cn → (cs e i ≤ b i ∧ b i ≤ e i ∧ e i ≤ rK x) ∧ (cA c5 4 ru i = nI (b i) ∧ cA c5 5 ru i = nI (e i)) ∧ (cA c12 5 B2 (48 * t + 4 * i) = nI (cs e i) ∧ cA c12 5 B2 (48 * t + 4 * i + 1) = nI (b i) ∧ cA c12 5 B2 (48 * t + 4 * i + 2) = (if b i = e i then -1 else nI (b i)) ∧ cA c12 5 B2 (48 * t + 4 * i + 3) = nI (e i)) ∧ (∀ w, ∃ v, rns w (cof x) (b i - cs e i) (cs e i) [] = some [v]) ∧ (b i ≠ e i → ∀ w, ∃ v, (v = 0 ∨ v = 1) ∧ rns w (cof x) (e i - b i) (b i) [] = some [v])
/-- what both have read so far -/
def JF (t : Nat) (c5 c12 : Cl) (ru B2 : Nat) (x : Ps) (cn : Nat) (b e : Nat → Nat) : Prop := cI c5 2 ru = nI (rK x) ∧ rK x ≤ 400 ∧ (∀ i, i < rK x → cA c5 1 ru i = nI (rC x i)) ∧ (∀ i, i < rK x → cA c12 3 B2 (400 * t + i) = nI (ren (rC x i))) ∧ (∀ i, i < rK x → sgk (rC x i)) ∧ Cls t c5 c12 ru B2 x cn b e
def JR (rd ru B2 t : Nat) (u : Nat → Nat) (l : Nat) (c3 c5 c12 : Cl) (x : Ps) (cn : Nat) (b e : Nat → Nat) : Prop := RI rd ru u l (.inr x) c3 c5 ∧ RQ B2 t u l c12 x ∧ SL l 0 x ∧ cI c12 14 B2 = nI cn ∧ JF t c5 c12 ru B2 x cn b e
def FC (B2 t : Nat) (c c' : Cl) : Prop := Kp [1, 3, 4, 5, 6, 8, 9, 10, 12, 13, 14, 15, 16] c c' ∧ (∀ j, (j < 400 * t ∨ 400 * t + 400 ≤ j) → cA c' 3 B2 j = cA c 3 B2 j) ∧ (∀ j, (j < 48 * t ∨ 48 * t + 48 ≤ j) → cA c' 5 B2 j = cA c 5 B2 j) ∧ (∀ j, j ≠ t → cA c' 6 B2 j = cA c 6 B2 j)
def FDr (rd ru : Nat) (c3 c5 c3' c5' : Cl) : Prop := Kp [6, 7] c3 c3' ∧ Oth rd c3 c3' ∧ Kp [1, 2, 3, 4, 5] c5 c5' ∧ Oth ru c5 c5'
section RLoop
variable {c c3 c4 c5 c11 c12 c13 : Cl} {d : Ad} {B2 t rd ru : Nat} {u : Nat → Nat} {l : Nat} {x : Ps} {cn : Nat} {b e : Nat → Nat}
theorem fc_rf : FC B2 t c c := ⟨kp_rf _ _, fun _ _ => rfl, fun _ _ => rfl, fun _ _ => rfl⟩
theorem fc_tr {a b d : Cl} (h : FC B2 t a b) (h' : FC B2 t b d) : FC B2 t a d := ⟨kp_tr h.1 h'.1, fun j hj => (h'.2.1 j hj).trans (h.2.1 j hj), fun j hj => (h'.2.2.1 j hj).trans (h.2.2.1 j hj), fun j hj => (h'.2.2.2 j hj).trans (h.2.2.2 j hj)⟩
theorem fc_k {a b : Cl} {Ks : List Nat} (h : Kp Ks a b) (h3 : 3 ∉ Ks) (h5 : 5 ∉ Ks) (h6 : 6 ∉ Ks) (hk : ∀ k, k ∈ Ks → k ∈ [1, 3, 4, 5, 6, 8, 9, 10, 12, 13, 14, 15, 16]) : FC B2 t a b := ⟨kp_wd h hk, fun j _ => by rw [(h 3 h3).2.2.2.1], fun j _ => by rw [(h 5 h5).2.2.2.1], fun j _ => by rw [(h 6 h6).2.2.2.1]⟩
theorem fd_rf : FDr rd ru c3 c5 c3 c5 := ⟨kp_rf _ _, oth_rf _ _, kp_rf _ _, oth_rf _ _⟩
theorem fd_tr {a b a' b' a'' b'' : Cl} (h : FDr rd ru a b a' b') (h' : FDr rd ru a' b' a'' b'') : FDr rd ru a b a'' b'' := ⟨kp_tr h.1 h'.1, oth_tr h.2.1 h'.2.1, kp_tr h.2.2.1 h'.2.2.1, oth_tr h.2.2.2 h'.2.2.2⟩
/-- a clause of a rule, both alike -/
theorem rcl_ok (hu : ∀ j, u j < 256) (l4 : l ≤ 400) (ht : t < 6) (hcn : cn ≤ 12) (h : JR rd ru B2 t u l c3 c5 c12 x cn b e) : ∃ rx rm, F_42 c3 c5 ru (nI cn) = some rx ∧ F_209 c12 B2 = some rm ∧ FDr rd ru c3 c5 rx.1 rx.2 ∧ FC B2 t c12 rm.2 ∧ ((rm.1 = 1 ∧ cn < 12 ∧ ∃ x' b' e', JR rd ru B2 t u l rx.1 rx.2 rm.2 x' (cn + 1) b' e') ∨ (rm.1 = 0 ∧ ∃ f, RI rd ru u l (.inl f) rx.1 rx.2 ∧ cI rm.2 9 B2 = nI f)) := by
  obtain ⟨hX, hQ, hs, h14, j1, j2, j3, j4, j5, ⟨k6, kcs, -⟩, kk⟩ := id h
  obtain ⟨⟨n, hR, hn⟩, h9, h11, -⟩ := id hQ
  obtain ⟨rx, x1, ⟨x2, x3, x4, x5⟩, x6⟩ := f_42 (cn := cn) hu l4 hcn hX
  obtain ⟨s0, s1, s2, s3, s4, -⟩ := f_177q hu l4 hQ
  have pp : sk u l (rP x) = rP x := by rw [← hn]; exact sk_sk
  obtain ⟨r, r1, r2, r3, r4⟩ := f_180p (c := s0.2) (B2 := B2) (w := 26479) (i := 18) hu l4 (by decide) rfl s4 pp
  have k0 : Kp [8] c12 r.2 := kp_tr s2 r2
  have fc0 : FC B2 t c12 r.2 := fc_k k0 (by decide) (by decide) (by decide) (by decide)
  have n6 : ¬ nI t = (6 : Int32) := fun z => by have := (nI_eq (a := t) (b := 6) (by omega) (by omega)).mp z; omega
  have hm : ∀ {y : Option (Int32 × Cl)}, (if r.1 = 0 then G_209 r.2 B2 0 [nI (rP x)] [] [] else G_209 r.2 B2 1 [nI (rP x), 0] [] []) = y → F_209 c12 B2 = y := fun {y} ey => by
    unfold F_209
    refine ob_e s1 ?_
    rw [s3.2.2.1, s4.2.2.1]
    refine ob_e (v := (0 : Int32)) (if_neg n6) ?_
    rw [if_pos rfl]
    exact ob_e r1 ey
  have bad : ∀ (w : Nat) (cm : Cl), Kp [8] c12 cm → (∀ {y : Option (Int32 × Cl)}, (F_176 cm B2 (nI w) (nI (rP x)) >>= fun r => zb r.1 >>= fun z => some (z, r.2)) = y → F_209 c12 B2 = y) → RI rd ru u l (.inl (flt (rP x) w)) rx.1 rx.2 → ∃ rx rm, F_42 c3 c5 ru (nI cn) = some rx ∧ F_209 c12 B2 = some rm ∧ FDr rd ru c3 c5 rx.1 rx.2 ∧ FC B2 t c12 rm.2 ∧ ((rm.1 = 1 ∧ cn < 12 ∧ ∃ x' b' e', JR rd ru B2 t u l rx.1 rx.2 rm.2 x' (cn + 1) b' e') ∨ (rm.1 = 0 ∧ ∃ f, RI rd ru u l (.inl f) rx.1 rx.2 ∧ cI rm.2 9 B2 = nI f)) := fun w cm km hy hI => by
    obtain ⟨q, q1, q2, q3, q4, -⟩ := f_176 (c := cm) (B2 := B2) (w := w) (p := rP x)
    exact ⟨rx, q, x1, hy (ob_mk q1 (zb_ok (Or.inl q2))), ⟨x2, x3, x4, x5⟩, fc_tr (fc_k km (by decide) (by decide) (by decide) (by decide)) (fc_k q3 (by decide) (by decide) (by decide) (by decide)), Or.inr ⟨q2, _, hI, q4 (by rw [(km 9 (by decide)).1]; exact h9)⟩⟩
  rcases x6 with ⟨n18, hI⟩ | ⟨k18, c12', hI⟩ | ⟨k18, w12, hI⟩
  · rcases r4 with ⟨z, _⟩ | ⟨_, r5⟩
    · exact absurd z n18
    · exact bad 0 r.2 k0 (fun {y} ey => hm ((if_pos r5).trans (by rw [G_209]; exact ey))) hI
  · rcases r4 with ⟨_, r5⟩ | ⟨z, _⟩
    · refine bad 4 r.2 k0 (fun {y} ey => hm ((if_neg (by rw [r5]; decide)).trans ?_)) hI
      rw [G_209]
      refine ob_e (v := (12 : Int32)) (if_pos rfl) ?_
      rw [(k0 14 (by decide)).1, h14, c12', if_pos (by rfl)]
      exact ey
    · exact absurd k18 z
  · rcases r4 with ⟨_, r5⟩ | ⟨z, _⟩
    · obtain ⟨m, hm14⟩ : ∃ m, m = sI r.2 14 B2 (nI (cn + 1)) := ⟨_, rfl⟩
      have k14 : Kp [14] r.2 m := by rw [hm14]; exact kp_I (by decide)
      have km : Kp [8, 14] c12 m := kp_tr (kp_wd k0 (by decide)) (kp_wd k14 (by decide))
      have fcm : FC B2 t c12 m := fc_k km (by decide) (by decide) (by decide) (by decide)
      have Rm : RP m B2 u l (rP x) := RP_k k14 (by decide) (by decide) (by decide) r3
      have Qm : RQ B2 t u l m x := by
        obtain ⟨-, g1, g2, g3, g4, g5⟩ := id hQ
        exact ⟨⟨rP x, Rm, pp⟩, by rw [(km 9 (by decide)).1]; exact g1, by rw [(km 11 (by decide)).1]; exact g2, by rw [(km 4 (by decide)).2.2.2.1]; exact g3, by rw [(km 12 (by decide)).1]; exact g4, fun i hi => by rw [(km 3 (by decide)).2.2.2.1]; exact g5 i hi⟩
      obtain ⟨q, q1, q2, q3⟩ := f_198 (cn := cn) hu l4 ht w12 Qm hs (by rw [(km 6 (by decide)).2.2.2.1]; exact k6) k18 Rm
      have e14 : cI q.2 14 B2 = nI (cn + 1) := by rw [(q2.1 14 (by decide)).1, hm14, cI_same]
      have hb : q.1 = 0 ∨ q.1 = 1 := by
        rcases q3 with ⟨_, _, z, _⟩ | ⟨_, _, _, _, z, _⟩
        · exact Or.inl z
        · exact Or.inr z
      have hmq : F_209 c12 B2 = some q := hm ((if_neg (by rw [r5]; decide)).trans (by
        rw [G_209]
        refine ob_mk (v := (12 : Int32)) (if_pos rfl) (in_neg ?_ (ob_mk (v := m) ?_ (ob_mk (v := q) (in_pos rfl (ob_mk q1 rfl)) (zb_ok hb))))
        · rw [(k0 14 (by decide)).1, h14]; exact fun z => by have := (nI_eq (a := cn) (b := 12) (by omega) (by omega)).mp z; omega
        · rw [(k0 14 (by decide)).1, h14, nI_1, hm14]))
      rcases hI with ⟨f, p1, hI⟩ | ⟨y, z, bb, p1, hI, hI4, hI5⟩
      · rcases q3 with ⟨f', p2, q4, q5, q6, q7⟩ | ⟨y', z', b', p2, _⟩
        · rw [p1] at p2
          cases p2
          exact ⟨rx, q, x1, hmq, ⟨x2, x3, x4, x5⟩, fc_tr fcm ⟨kp_wd q2.1 (by decide), q2.2, q6, fun j _ => by rw [q7]⟩, Or.inr ⟨q4, f, hI, q5⟩⟩
        · rw [p1] at p2; cases p2
      · rcases q3 with ⟨f', p2, _⟩ | ⟨y', z', b', p2, q4, q5, q6⟩
        · rw [p1] at p2; cases p2
        · rw [p1] at p2
          cases p2
          obtain ⟨w0, w1, w2, w3, w4, w5⟩ := q6
          have m5 : cA m 5 B2 = cA c12 5 B2 := by rw [(km 5 (by decide)).2.2.2.1]
          have m6 : cA m 6 B2 = cA c12 6 B2 := by rw [(km 6 (by decide)).2.2.2.1]
          rw [m5] at w4
          rw [m6] at w5
          have fcq : FC B2 t c12 q.2 := fc_tr fcm ⟨kp_wd q2.1 (by decide), q2.2, fun j hj => by rw [m5]; exact w4 j (by omega), fun j hj => by rw [m6, w5, pk_un hj]⟩
          -- what the signs come to
          have pl := kd_lt_l (u := u) (l := l) (x := x) (by omega)
          have ev0 : Ev (rK x) (pskx u l x) (fun _ => []) := ⟨Nat.le_refl _, fun w => by show rns w (cof x) (rK x - rK x) (rK x) [] = _; rw [Nat.sub_self]; rfl, fun w => Nat.zero_le _, j5, hs.2.2⟩
          have key : psum u l (pskx u l x) = .inr y ∧ ((bb = false ∧ z = y) ∨ (bb = true ∧ ptest u l (pskx u l y) = .inr z ∧ kd u l (rP y) = 19)) := by
            unfold pcl at p1
            cases h1 : psum u l (pskx u l x) with
            | inl f => rw [h1] at p1; cases p1
            | inr y0 =>
              rw [h1] at p1
              have p1' : (if kd u l (rP y0) = 19 then (match ptest u l (pskx u l y0) with | .inl f => (Sum.inl f : Sum Nat (Ps × Ps × Bool)) | .inr z => .inr (y0, z, true)) else .inr (y0, y0, false)) = .inr (y, z, bb) := p1
              split at p1'
              · rename_i hk19
                cases h2 : ptest u l (pskx u l y0) with
                | inl f => rw [h2] at p1'; cases p1'
                | inr z0 => rw [h2] at p1'; cases p1'; exact ⟨rfl, Or.inr ⟨rfl, h2, hk19⟩⟩
              · cases p1'; exact ⟨rfl, Or.inl ⟨rfl, rfl⟩⟩
          obtain ⟨hy, hz⟩ := key
          have msy := psum_ms l4 (sl_sk (u := u) pl hs) hy
          obtain ⟨prxy, v, evy⟩ := ev_psum l4 (sl_sk (u := u) pl hs) ev0 hy
          have prxy' : Pre x y := prxy
          have evy0 : Ev (rK y) (pskx u l y) (fun _ => []) := ⟨Nat.le_refl _, fun w => by show rns w (cof y) (rK y - rK y) (rK y) [] = _; rw [Nat.sub_self]; rfl, fun w => Nat.zero_le _, evy.2.2.2.1, evy.2.2.2.2⟩
          have fz : Pre y z ∧ SL l 0 z ∧ (∀ i, i < rK z → sgk (rC z i)) ∧ (if bb = true then nI (rK y) else -1) = (if rK y = rK z then -1 else nI (rK y)) ∧ (rK y ≠ rK z → ∀ w, ∃ v, (v = 0 ∨ v = 1) ∧ rns w (cof z) (rK z - rK y) (rK y) [] = some [v]) := by
            rcases hz with ⟨b0, e0⟩ | ⟨b1, e1, k19⟩
            · subst e0
              subst b0
              exact ⟨pre_rf _, sl_le msy.1 (Nat.zero_le _), evy.2.2.2.1, by rw [if_pos rfl]; rfl, fun hne => absurd rfl hne⟩
            · have ply := kd_lt_l (u := u) (l := l) (x := y) (by omega)
              obtain ⟨g1, g2, ⟨vv, g3, g4⟩, g5, g6⟩ := ev_ptest l4 (sl_sk (u := u) ply msy.1) evy0 e1
              have g2' : rK y < rK z := g2
              subst b1
              exact ⟨g1, sl_le g5 (Nat.zero_le _), g4.2.2.2.1, by rw [if_neg (show ¬ rK y = rK z by omega)]; rfl, fun _ w => ⟨vv w, g3 w, g4.2.1 w⟩⟩
          obtain ⟨pryz, slz, sgz, rw2, tst⟩ := fz
          have prxz := pre_tr prxy' pryz
          have nocs : ∀ i, i ≤ cn → cs (un e cn (rK z)) i = cs e i := fun i hi => by
            unfold cs
            by_cases w : i = 0
            · rw [if_pos w, if_pos w]
            · rw [if_neg w, if_neg w, un_n (by omega)]
          refine ⟨rx, q, x1, hmq, ⟨x2, x3, x4, x5⟩, fcq, Or.inl ⟨q4, w12, z, un b cn (rK y), un e cn (rK z), hI, q5, slz, e14, hI.2.1, hI.2.2.1, hI.2.2.2.2.2.1, q5.2.2.2.2.2, sgz, ⟨by rw [w5, pk_us], ?_, by omega⟩, fun i hi => ?_⟩⟩
          · unfold cs; rw [if_neg (by omega), show cn + 1 - 1 = cn by omega, un_s]
          · rw [nocs i (by omega)]
            by_cases wi : i = cn
            · subst wi
              rw [un_s, un_s, kcs]
              refine ⟨⟨prxy'.1, pryz.1, Nat.le_refl _⟩, ⟨by rw [hI4, pk_us], by rw [hI5, pk_us]⟩, ⟨w0, w1, by rw [w2]; exact rw2, w3⟩, fun w => ⟨v w, ?_⟩, fun hne => tst hne⟩
              have := evy.2.1 w
              rw [← this]
              exact rns_cg fun k ka kb => congrArg nI (pryz.2 k (by have := prxy'.1; omega))
            · obtain ⟨⟨a1, a2, a3⟩, ⟨a4, a5⟩, ⟨a6, a7, a8, a9⟩, a10, a11⟩ := kk i (by omega)
              rw [un_n wi, un_n wi]
              refine ⟨⟨a1, a2, Nat.le_trans a3 prxz.1⟩, ⟨by rw [hI4, pk_un wi]; exact a4, by rw [hI5, pk_un wi]; exact a5⟩, ⟨by rw [w4 _ (by omega)]; exact a6, by rw [w4 _ (by omega)]; exact a7, by rw [w4 _ (by omega)]; exact a8, by rw [w4 _ (by omega)]; exact a9⟩, fun w => ?_, fun hne w => ?_⟩
              · obtain ⟨v', hv'⟩ := a10 w
                exact ⟨v', by rw [← hv']; exact rns_cg fun k ka kb => congrArg nI (prxz.2 k (by omega))⟩
              · obtain ⟨v', hv0, hv'⟩ := a11 hne w
                exact ⟨v', hv0, by rw [← hv']; exact rns_cg fun k ka kb => congrArg nI (prxz.2 k (by omega))⟩
    · exact absurd k18 z
end RLoop
