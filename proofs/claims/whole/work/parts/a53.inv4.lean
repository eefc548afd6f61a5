/-! ===== image, back, house, rule ===== -/
set_option maxRecDepth 100000 in
theorem rm_up {a b X0 n : Nat} (h : a ≤ b + 260) (h' : b ≤ X0 + 260 * n) : a ≤ X0 + 260 * (n + 1) := by omega
set_option maxRecDepth 100000 in
theorem sl_up {a b S0 n : Nat} (h : a ≤ b + 2753) : a + (S0 + 2753 * n) ≤ b + (S0 + 2753 * (n + 1)) := by omega
section Inv4
variable {p A : Nat → Nat} {X0 S0 L : Nat} {xs : Nat → Int32} {n : Nat} {c0 c1 c2 c3 c4 c5 c6 c7 c8 c9 c10 c11 c12 c13 : Cl} {d : Ad}
theorem st_32 : St_32 (IV p A X0 S0 L xs) (p 0) (p 1) := by
  intro n c0 c1 c2 c3 c4 c5 c6 c7 c8 c9 c10 c11 c12 c13 d h a1
  have h' : IJ p A X0 S0 L xs n c0 c1 c2 c3 c4 c5 c6 c7 c8 c9 c10 c11 c12 c13 d := h
  have e3 : F_170 a1.toInt64 0 3 = some (if a1 < 0 then 0 else if 3 < a1 then 0 else 1) := f_170 a1 0 3
  rcases pk_ix a1 (n := 4) (by decide) with z | z | ⟨k, hk, rfl⟩
  · rw [in_lo z] at e3
    refine ⟨(-1, c7, c8, c10), (-1, c12), ?_, ?_, rfl, IJ_n h'⟩
    · unfold F_155; exact in_pos z rfl
    · unfold F_298; exact ob_mk e3 (in_pos rfl rfl)
  · have z2 := out_hi (n := 4) (m := 3) rfl (by decide) z
    rw [in_hi z2] at e3
    refine ⟨(-1, c7, c8, c10), (-1, c12), ?_, ?_, rfl, IJ_n h'⟩
    · unfold F_155; exact in_neg z2.1 (in_pos z rfl)
    · unfold F_298; exact ob_mk e3 (in_pos rfl rfl)
  rw [in_in (k := k) (n := 3) (m := 3) rfl (by omega) (by decide)] at e3
  obtain ⟨R, D, H, Q, V, K, w, s⟩ := IJ_w h'
  obtain ⟨b, f, -, -, -, -, ⟨WI, AI, i1, i2⟩, -⟩ := id h'
  rcases i1 k hk with ⟨g1, g2⟩ | ⟨g1, g2, g3, ⟨g4, g5⟩, g6, g7, g8⟩
  · have lq : ldq (cQ c11 8 (p 0)) 4 (nI k) = some none := (ldq_ok hk (by decide)).trans (by rw [g2])
    refine ⟨(-1, c7, c8, c10), (-1, c12), ?_, ?_, rfl, IJ_n h'⟩
    · unfold F_155
      exact in_neg (nI_pos (by omega)) (in_neg (show ¬ nI 4 ≤ nI k from nI_ge hk (by decide)) (ob_mk lq (in_pos rfl rfl)))
    · unfold F_298
      exact ob_mk e3 (in_neg (by decide) (ob_mk (ald_ok hk (by decide)) (in_pos g1 rfl)))
  · obtain ⟨rx, rm, y1, y2, y3, y4, y5, y6, y7, R', D', H', Q', V', K', y8⟩ := q_back (c7 := c7) f.1.2.2.2.1 hk b.1 (fun i j hi hj z => g8 j i hj hi z.symm) (fun z => g4 z.symm) w g1 (by rw [g2]; decide) g3
    rw [f.1.2.2.2.2.2.1] at y4
    refine ⟨rx, rm, y1, y2, y3, IJ_op h' ⟨R', D', H', Q', V', K', y8, by rw [y4]; exact SUM_0⟩ y5 y6 (kp_wd y7 (by decide)) (kp_rf _ _) (by rw [y4]; rfl)⟩
/-- behind image -/
theorem IJ_im {c8' c10' c11' c12' : Cl} {d' : Ad} (h : IJ p A X0 S0 L xs n c0 c1 c2 c3 c4 c5 c6 c7 c8 c9 c10 c11 c12 c13 d) (hw : ∃ R D H Q V K, WM c1 c8' c10' c12' (p 1) (p 7) A (aX d) R D H Q V K ∧ SUM c7 (p 12) (cA c12' 20 (p 1)) R D H) (k11 : Kp [8] c11 c11') (k12 : Kp [47, 48, 49, 50, 51] c12 c12') (hd : Adm d d') (hx : aX d' ≤ aX d + 260) (hs : aS d' ≤ aS d + 2753) (hi : IMS c1 c8' c10' c11' c12' (p 0) (p 1) (p 7) (p 9) A (aX d')) : IJ p A X0 S0 L xs (n + 1) c0 c1 c2 c3 c4 c5 c6 c7 c8' c9 c10' c11' c12' c13 d' := by
  obtain ⟨b, f, t, -, r, q, -, x1, x2, x3, x4⟩ := h
  obtain ⟨R, D, H, Q, V, K, w1, w2⟩ := hw
  refine ⟨b, PF_k rfl rfl rfl rfl rfl rfl (kp_wd k11 (by decide)) f, TP_c t (by rw [(k11 1 (by decide)).1]) (by rw [(k11 0 (by decide)).2.2.2.1]) (by rw [(k12 1 (by decide)).1]) (by rw [(k12 0 (by decide)).2.2.2.1]), ⟨R, D, H, Q, V, K, WM_x hd.1 w1, w2⟩, ?_, Pw_c (k12 25 (by decide)).2.2.2.1 q, hi, Nat.le_trans x1 hd.1, rm_up hx x2, hd.2.2.1.trans x3, hd.2.2.2.trans x4⟩
  exact RWS_k hd (sl_up hs) (fun _ _ => rfl) (kp_rf _ _) rfl rfl (by rw [(k11 6 (by decide)).1]) (by rw [(k11 5 (by decide)).2.2.2.2.2]) (k12 2 (by decide)).1 (k12 3 (by decide)).2.2.2.1 (k12 5 (by decide)).2.2.2.1 (k12 6 (by decide)).2.2.2.1 r
set_option maxRecDepth 100000 in
theorem st_31 : St_31 (IV p A X0 S0 L xs) (p 0) (p 1) := by
  intro n c0 c1 c2 c3 c4 c5 c6 c7 c8 c9 c10 c11 c12 c13 d h a1
  have h' : IJ p A X0 S0 L xs n c0 c1 c2 c3 c4 c5 c6 c7 c8 c9 c10 c11 c12 c13 d := h
  have e3 : F_170 a1.toInt64 0 3 = some (if a1 < 0 then 0 else if 3 < a1 then 0 else 1) := f_170 a1 0 3
  rcases pk_ix a1 (n := 4) (by decide) with z | z | ⟨k, hk, rfl⟩
  · rw [in_lo z] at e3
    refine ⟨(-1, c8, c10, c11, d), (-1, c12), ?_, ?_, rfl, IJ_n h'⟩
    · unfold F_154; exact in_pos z rfl
    · unfold F_297; exact ob_mk e3 (in_pos rfl rfl)
  · have z2 := out_hi (n := 4) (m := 3) rfl (by decide) z
    rw [in_hi z2] at e3
    refine ⟨(-1, c8, c10, c11, d), (-1, c12), ?_, ?_, rfl, IJ_n h'⟩
    · unfold F_154; exact in_neg z2.1 (in_neg (Int32.not_lt.mpr z) rfl)
    · unfold F_297; exact ob_mk e3 (in_pos rfl rfl)
  obtain ⟨R, D, H, Q, V, K, w, s⟩ := IJ_w h'
  obtain ⟨⟨b1, b2, b3, b4⟩, f, -, -, -, -, ⟨WI, AI, i1, i2⟩, x1, -⟩ := id h'
  obtain ⟨rx, rm, y1, y2, y3, y4, ⟨y5, y6, y7⟩, y8, y9⟩ := q_image (d := d) (Ak := AI k) f.1.2.2.2.1 hk w (fun i hi => by have := (b2 i hi).1; omega) (by omega) (fun wk hq => by
    rcases i1 k hk with ⟨g1, g2⟩ | ⟨g1, g2, g3, ⟨g4, g5⟩, g6, g7, g8⟩
    · rw [g2] at hq; cases hq
    · rw [g1] at hq
      cases hq
      exact ⟨g4, g6, g8, g3⟩)
  have m20 : cA rm.2 20 = cA c12 20 := (y5 20 (by decide)).2.2.2.1
  have hw' : ∃ R D H Q V K, WM c1 rx.2.1 rx.2.2.1 rm.2 (p 1) (p 7) A (aX d) R D H Q V K ∧ SUM c7 (p 12) (cA rm.2 20 (p 1)) R D H := ⟨R, D, H, Q, V, K, y8, by rw [m20]; exact s⟩
  refine ⟨rx, rm, y1, y2, y3, ?_⟩
  rcases y9 with ⟨wk, v1, v2, v3, v4, v5, v6⟩ | ⟨v1, v2, v3, v4, v5, v6, v7⟩
  · have ek : wk = WI k ∧ IM1 c1 c8 c10 c12 (p 1) (p 7) (p 9) A (aX d) k (WI k) (AI k) := by
      rcases i1 k hk with ⟨g1, g2⟩ | ⟨g1, g⟩
      · rw [g2] at v1; cases v1
      · rw [g1] at v1; cases v1; exact ⟨rfl, g⟩
    obtain ⟨rfl, -, -, k4, k6, k7, k8⟩ := ek
    refine IJ_im h' hw' (by rw [v2]; exact kp_rf _ _) y5 y4 (by rw [v3]; omega) (by rw [v3]; omega) ?_
    rw [v2, v3]
    refine ⟨WI, AI, fun j hj => ?_, i2⟩
    by_cases e : j = k
    · subst e
      exact Or.inr ⟨v1, y7, v6, k4, k6, k7, k8⟩
    · obtain ⟨o1, o2, o3, o4, o5⟩ := y6 j hj e
      rcases i1 j hj with ⟨g1, g2⟩ | ⟨g1, g2, g3, g4, g6, g7, g8⟩
      · exact Or.inl ⟨o5.trans g1, g2⟩
      · obtain ⟨a1, a2⟩ := i2 j k hj hk e (by rw [g1]; exact fun z => by cases z) (by rw [v1]; exact fun z => by cases z)
        exact Or.inr ⟨g1, o5.trans g2, IMr_c (fun i hi => v4 _ (fun i' hi' => a2 i i' hi hi')) (fun _ _ => Sm1.rf _ _) (oth_sw v5 a1) hj ⟨o1, o2, o3, o4⟩ (Nat.le_refl _) g3, g4, g6, g7, g8⟩
  · have nle : ∀ i, aX d ≤ nA (aX d) i := fun i => by unfold nA; split <;> omega
    refine IJ_im h' hw' (by rw [v2]; exact kp_Q (by decide)) y5 y4 (by omega) (by omega) ?_
    have cq : cQ rx.2.2.2.1 8 (p 0) = va_up (cQ c11 8 (p 0)) k (some (aX d)) := by rw [v2, cQ_sQ, if_pos ⟨rfl, rfl⟩]
    have cqk : cQ rx.2.2.2.1 8 (p 0) k = some (aX d) := by rw [cq]; unfold va_up; rw [if_pos rfl]
    have cqj : ∀ j, j ≠ k → cQ rx.2.2.2.1 8 (p 0) j = cQ c11 8 (p 0) j := fun j e => by rw [cq]; unfold va_up; rw [if_neg e]
    have im : ∀ j, j < 4 → cQ c11 8 (p 0) j ≠ none → IM1 c1 c8 c10 c12 (p 1) (p 7) (p 9) A (aX d) j (WI j) (AI j) := fun j hj z => (i1 j hj).elim (fun g => absurd g.2 z) (fun g => g.2)
    refine ⟨fun j => if j = k then aX d else WI j, fun j => if j = k then nA (aX d) else AI j, fun j hj => ?_, fun j j' hj hj' hne z z' => ?_⟩
    · by_cases e : j = k
      · subst e
        dsimp only
        rw [if_pos rfl, if_pos rfl]
        refine Or.inr ⟨cqk, y7, IMr_c (fun _ _ => Sm8.rf _ _) (fun _ _ => Sm1.rf _ _) (Sw.rf _ _) hj ⟨fun _ _ => rfl, fun _ _ => rfl, rfl, rfl⟩ (by omega) v7, ⟨by omega, by omega⟩, fun i i' _ _ e => by unfold nA at e; split at e <;> split at e <;> omega, fun i hi => ⟨?_, by have := nle i; omega⟩, fun i i' _ hi' => by have := nle i; have := (b2 i' hi').1; omega⟩
        unfold nA; split <;> omega
      · obtain ⟨o1, o2, o3, o4, o5⟩ := y6 j hj e
        dsimp only
        rw [if_neg e, if_neg e, cqj j e]
        rcases i1 j hj with ⟨g1, g2⟩ | ⟨g1, g2, g3, ⟨g4, g5⟩, g6, g7, g8⟩
        · exact Or.inl ⟨o5.trans g1, g2⟩
        · exact Or.inr ⟨g1, o5.trans g2, IMr_c (fun i hi => v5 _ (g7 i hi).1) (fun _ _ => Sm1.rf _ _) (v6 _ g5) hj ⟨o1, o2, o3, o4⟩ (by omega) g3, ⟨g4, by omega⟩, g6, fun i hi => ⟨by have := (g7 i hi).1; omega, (g7 i hi).2⟩, g8⟩
    · dsimp only
      by_cases e : j = k
      · have e' : j' ≠ k := fun q => hne (e.trans q.symm)
        rw [cqj j' e'] at z'
        obtain ⟨-, -, ⟨-, g5⟩, -, g7, -⟩ := im j' hj' z'
        rw [if_pos e, if_neg e', if_pos e, if_neg e']
        exact ⟨by omega, fun i i' _ hi' => by have := nle i; have := (g7 i' hi').1; omega⟩
      · rw [cqj j e] at z
        by_cases e' : j' = k
        · obtain ⟨-, -, ⟨-, g5⟩, -, g7, -⟩ := im j hj z
          rw [if_neg e, if_pos e', if_neg e, if_pos e']
          exact ⟨by omega, fun i i' hi _ => by have := nle i'; have := (g7 i hi).1; omega⟩
        · rw [cqj j' e'] at z'
          rw [if_neg e, if_neg e', if_neg e, if_neg e']
          exact i2 j j' hj hj' hne z z'
/-- the numbers are those of the row -/
theorem WM_eq {c1' c8' c10' c12' : Cl} {B2 w w' X X' R D H Q V R' D' H' Q' V' : Nat} {A' K K' : Nat → Nat} (h : WM c1 c8 c10 c12 B2 w A X R D H Q V K) (h' : WM c1' c8' c10' c12' B2 w' A' X' R' D' H' Q' V' K') (e : cA c12' 20 B2 = cA c12 20 B2) : R' = R ∧ D' = D ∧ H' = H := by
  obtain ⟨U, -, -, -, -, ⟨M, E, -, s⟩, -⟩ := h
  obtain ⟨U', -, -, -, -, ⟨M', E', -, s'⟩, -⟩ := h'
  rw [e] at s'
  obtain ⟨⟨-, a1, a2⟩, ⟨-, b1, b2⟩, ⟨-, g1, g2⟩, -⟩ := s.1.1
  obtain ⟨⟨-, a3, a4⟩, ⟨-, b3, b4⟩, ⟨-, g3, g4⟩, -⟩ := s'.1.1
  exact ⟨(nI_eq (by omega) (by omega)).mp (a3.symm.trans a1), (nI_eq (by omega) (by omega)).mp (b3.symm.trans b1), (nI_eq (by omega) (by omega)).mp (g3.symm.trans g1)⟩
set_option maxRecDepth 100000 in
theorem st_2 : St_2 (IV p A X0 S0 L xs) (p 0) (p 1) := by
  intro n c0 c1 c2 c3 c4 c5 c6 c7 c8 c9 c10 c11 c12 c13 d h
  have h' : IJ p A X0 S0 L xs n c0 c1 c2 c3 c4 c5 c6 c7 c8 c9 c10 c11 c12 c13 d := h
  obtain ⟨R, D, H, Q, V, K, P, Pq, P', Pq', Z, Z', Y, Y', w, s, r⟩ := IJ_o h'
  obtain ⟨b, f, t, -, -, q, i, x1, x2, x3, x4⟩ := h'
  obtain ⟨l, u, l4, hu, t1, t2, t3, t4⟩ := TP_u t
  obtain ⟨rx, rm, e1, e2, e3, o1, ⟨k2, -⟩, ⟨k3, -⟩, o8, o10, k11, ⟨hd, hx, hs⟩, k12, m1, o7, R', D', H', Q', V', K', w'⟩ := q_house (c7 := c7) b.1 w (Nat.le_refl _) hu l4 t1 t2 t3 t4 f.1.1 f.1.2.1 f.2.2.1 f.2.2.2.1
  have f7 := f.1.2.2.2.1
  rw [f.1.2.2.2.2.2.1] at o7
  refine ⟨rx, rm, e1, e2, e3, ?_⟩
  have k11' : Kp [1] c11 rx.2.2.2.2.2.2.2.1 := by rw [k11]; exact kp_I (by decide)
  have hsum : SUM rx.2.2.2.2.1 (p 12) (cA rm.2 20 (p 1)) R' D' H' ∧ cR rx.2.2.2.2.1 0 = cR c7 0 := by
    rcases o7 with ⟨g1, g2⟩ | g1
    · obtain ⟨y1, y2, y3⟩ := WM_eq w w' g2
      rw [g1, g2, y1, y2, y3]; exact ⟨s, rfl⟩
    · rw [g1]; exact ⟨SUM_0, rfl⟩
  rw [f7] at w' o10
  refine ⟨b, PF_k rfl (k2 0 (by decide)).2.2.1 (k3 0 (by decide)).2.2.1 rfl hsum.2 rfl (kp_wd k11' (by decide)) f, TP_0 (by rw [k11, cI_same]) m1, ⟨R', D', H', Q', V', K', w', hsum.1⟩, ?_, Pw_c (k12 25 (by decide)).2.2.2.1 q, IMS_c (fun a _ z _ => o8 a z) (fun ho hh => oth_s1 o1 (by omega)) (fun a _ z => oth_sw o10 z) (by rw [(k11' 8 (by decide)).2.2.2.2.2]) (kp_hi k12 (by decide)) hd.1 i, Nat.le_trans x1 hd.1, by omega, hd.2.2.1.trans x3, hd.2.2.2.trans x4⟩
  exact RWS_k hd (by omega) (fun _ _ => rfl) (kp_rf _ _) rfl rfl (by rw [(k11' 6 (by decide)).1]) (by rw [(k11' 5 (by decide)).2.2.2.2.2]) (k12 2 (by decide)).1 (k12 3 (by decide)).2.2.2.1 (k12 5 (by decide)).2.2.2.1 (k12 6 (by decide)).2.2.2.1 ⟨P, Pq, P', Pq', Z, Z', Y, Y', r⟩
set_option maxRecDepth 100000 in
theorem st_3 : St_3 (IV p A X0 S0 L xs) (p 0) (p 1) := by
  intro n c0 c1 c2 c3 c4 c5 c6 c7 c8 c9 c10 c11 c12 c13 d h
  have h' : IJ p A X0 S0 L xs n c0 c1 c2 c3 c4 c5 c6 c7 c8 c9 c10 c11 c12 c13 d := h
  obtain ⟨b, f, t, ⟨R, D, H, Q, V, K, w, s⟩, ⟨P, Pq, P', Pq', Z, Z', Y, Y', r1, r2, ⟨r3, r3'⟩, r4, ⟨r5, r6⟩, ⟨r7, r7'⟩, r8, r9⟩, q, i, x1, x2, x3, x4⟩ := h'
  obtain ⟨l, u, l4, hu, t1, t2, t3, t4⟩ := TP_u t
  obtain ⟨rx, rm, e1, e2, e3, ⟨k3, -⟩, o4, ⟨k5, -⟩, ⟨k11, -⟩, o13, ⟨hd, hx, hs⟩, k12, ⟨l', hl, m1, m2⟩, hR, hN⟩ := q_rule (d := d) r1 hu l4 t1 t2 t3 t4 f.1.1 f.1.2.2.1 f.2.2.2.2.1 f.2.2.2.1
  refine ⟨rx, rm, e1, e2, e3, ?_⟩
  have m20 := (k12 20 (by decide)).2.2.2.1
  obtain ⟨-, -, -, ⟨p1, p2, p3, p4⟩, -⟩ := id r2
  have a0 : cA rx.2.2.2.2.1 0 (p 0) = cA c11 0 (p 0) := by rw [(k11 0 (by decide)).2.2.2.1]
  have a0' : cA rm.2 0 (p 1) = cA c12 0 (p 1) := by rw [(k12 0 (by decide)).2.2.2.1]
  refine ⟨b, PF_k rfl rfl (k3 0 (by decide)).2.2.1 (k5 0 (by decide)).2.2.1 rfl rfl (kp_wd k11 (by decide)) f, ⟨l', by omega, m1, m2, by rw [a0]; exact fun j hj => ⟨u j, hu j, t3 j (by omega)⟩, by rw [a0, a0']; exact fun j hj => (t3 j (by omega)).trans (t4 j (by omega)).symm⟩, ⟨R, D, H, Q, V, K, WM_c (fun _ _ => Sm8.rf _ _) (fun _ _ => Sm1.rf _ _) (Sw.rf _ _) (fun j _ => by rw [m20]) (by rw [(k12 22 (by decide)).2.2.2.1]) (by rw [(k12 21 (by decide)).1]) (by rw [(k12 23 (by decide)).1]) hd.1 w, by rw [m20]; exact s⟩, ?_, Pw_c (k12 25 (by decide)).2.2.2.1 q, IMS_c (fun _ _ _ _ => Sm8.rf _ _) (fun _ _ => Sm1.rf _ _) (fun _ _ _ => Sw.rf _ _) (by rw [(k11 8 (by decide)).2.2.2.2.2]) (kp_hi k12 (by decide)) hd.1 i, Nat.le_trans x1 hd.1, by omega, hd.2.2.1.trans x3, hd.2.2.2.trans x4⟩
  refine ⟨P, Pq, P', Pq', Z, Z', Y, Y', hR, Rows_k hd (kp_rf _ _) r2, ?_, Rw2_k hd rfl rfl r5 r6 r4, ⟨Nat.lt_of_lt_of_le r5 hd.1, Nat.lt_of_lt_of_le r6 hd.1⟩, ⟨r7, r7'⟩, fun j y hy => ?_, by omega⟩
  · rw [(o13 0 P p1 (by simp)).2, (o13 0 P' p3 (by simp)).2]
    exact ⟨r3, r3'⟩
  · rcases hN j y hy with g | ⟨g1, g2, g3⟩
    · obtain ⟨v1, v2⟩ := r8 j y g
      refine ⟨Nat.lt_of_lt_of_le v1 hd.1, fun k hk => ?_⟩
      rw [(o4 k y (Nat.ne_of_lt v1)).2.2.1]
      exact ⟨Nat.lt_of_lt_of_le (v2 k hk).1 hd.1, (v2 k hk).2⟩
    · refine ⟨g2, fun k hk => ⟨(g3 k hk).2, fun z => ?_⟩⟩
      have := (g3 k hk).1
      simp only [List.mem_cons, List.not_mem_nil, or_false] at z
      rcases z with z | z | z | z | z | z <;> omega
end Inv4
