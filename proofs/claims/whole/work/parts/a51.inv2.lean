/-! ===== the invariant whole; calls that ask ===== -/
abbrev SCR : List Nat := [4, 7, 8, 9, 10, 11, 12, 13, 14, 15, 16, 17, 18, 19, 24, 26, 27, 28, 29, 30, 31, 32, 33, 34, 35, 36, 37, 38, 39, 40, 41, 42, 43, 44, 45, 46]
def IJ (p A : Nat → Nat) (X0 S0 L : Nat) (xs : Nat → Int32) (n : Nat) (c0 c1 c2 c3 c4 c5 c6 c7 c8 c9 c10 c11 c12 c13 : Cl) (d : Ad) : Prop :=
  ((∀ i j, i ≤ 20 → j ≤ 20 → A i = A j → i = j) ∧ (∀ i, i ≤ 20 → A i < X0 ∧ A i ≠ p 9) ∧ p 7 < X0 ∧ p 9 < X0) ∧ PF p c0 c2 c3 c5 c7 c9 c11 ∧ TP c11 (p 0) c12 (p 1) ∧ (∃ R D H Q V K, WM c1 c8 c10 c12 (p 1) (p 7) A (aX d) R D H Q V K ∧ SUM c7 (p 12) (cA c12 20 (p 1)) R D H) ∧ RWS p c4 c6 c9 c11 c12 c13 d (S0 + 2753 * n) ∧ Pw c12 (p 1) ∧ IMS c1 c8 c10 c11 c12 (p 0) (p 1) (p 7) (p 9) A (aX d) ∧ (X0 ≤ aX d ∧ aX d ≤ X0 + 260 * n ∧ aL d = L ∧ aT d = xs)
def IV (p A : Nat → Nat) (X0 S0 L : Nat) (xs : Nat → Int32) (n : Nat) (W : Wd) (d : Ad) : Prop := IJ p A X0 S0 L xs n W.1 W.2.1 W.2.2.1 W.2.2.2.1 W.2.2.2.2.1 W.2.2.2.2.2.1 W.2.2.2.2.2.2.1 W.2.2.2.2.2.2.2.1 W.2.2.2.2.2.2.2.2.1 W.2.2.2.2.2.2.2.2.2.1 W.2.2.2.2.2.2.2.2.2.2.1 W.2.2.2.2.2.2.2.2.2.2.2.1 W.2.2.2.2.2.2.2.2.2.2.2.2.1 W.2.2.2.2.2.2.2.2.2.2.2.2.2 d
section Inv
variable {p A : Nat → Nat} {X0 S0 L : Nat} {xs : Nat → Int32} {n : Nat} {c0 c1 c2 c3 c4 c5 c6 c7 c8 c9 c10 c11 c12 c13 : Cl} {d : Ad}
theorem Pw_c {B2 : Nat} {c12' : Cl} (h : cA c12' 25 = cA c12 25) (hp : Pw c12 B2) : Pw c12' B2 := by unfold Pw; rw [h]; exact hp
theorem scr_lt : ∀ k, k ∈ SCR → k < 47 := by decide +kernel
set_option maxRecDepth 10000 in
/-- slots of work change, cells and rows -/
theorem IJ_sc {c0' c4' c6' c7' c9' c12' c13' : Cl} {d' : Ad} (h : IJ p A X0 S0 L xs n c0 c1 c2 c3 c4 c5 c6 c7 c8 c9 c10 c11 c12 c13 d) (k0 : cR c0' 0 = cR c0 0) (k7 : cR c7' 0 = cR c7 0) (k9 : cR c9' 0 = cR c9 0) (hw : ∃ R D H Q V K, WM c1 c8 c10 c12 (p 1) (p 7) A (aX d) R D H Q V K ∧ SUM c7' (p 12) (cA c12 20 (p 1)) R D H) (hr : RWS p c4' c6' c9' c11 c12 c13' d' (S0 + 2753 * (n + 1))) (k12 : Kp SCR c12 c12') (hd : Adm d d') (hx : aX d' ≤ aX d + 260) : IJ p A X0 S0 L xs (n + 1) c0' c1 c2 c3 c4' c5 c6' c7' c8 c9' c10 c11 c12' c13' d' := by
  obtain ⟨b, f, t, -, -, q, i, x1, x2, x3, x4⟩ := h
  obtain ⟨R, D, H, Q, V, K, w1, w2⟩ := hw
  have m20 := (k12 20 (by decide)).2.2.2.1
  refine ⟨b, PF_k k0 rfl rfl rfl k7 k9 (kp_rf _ _) f, TP_c t rfl rfl (by rw [(k12 1 (by decide)).1]) (by rw [(k12 0 (by decide)).2.2.2.1]), ⟨R, D, H, Q, V, K, WM_c (fun _ _ => Sm8.rf _ _) (fun _ _ => Sm1.rf _ _) (Sw.rf _ _) (fun j _ => by rw [m20]) (by rw [(k12 22 (by decide)).2.2.2.1]) (by rw [(k12 21 (by decide)).1]) (by rw [(k12 23 (by decide)).1]) hd.1 w1, by rw [m20]; exact w2⟩, ?_, Pw_c (k12 25 (by decide)).2.2.2.1 q, IMS_c (fun _ _ _ _ => Sm8.rf _ _) (fun _ _ => Sm1.rf _ _) (fun _ _ _ => Sw.rf _ _) rfl (kp_hi k12 scr_lt) hd.1 i, Nat.le_trans x1 hd.1, by omega, hd.2.2.1.trans x3, hd.2.2.2.trans x4⟩
  exact RWS_k (adm_rf d') (Nat.le_refl _) (fun _ _ => rfl) (kp_rf _ _) rfl rfl rfl rfl (k12 2 (by decide)).1 (k12 3 (by decide)).2.2.2.1 (k12 5 (by decide)).2.2.2.1 (k12 6 (by decide)).2.2.2.1 hr
theorem IJ_w (h : IJ p A X0 S0 L xs n c0 c1 c2 c3 c4 c5 c6 c7 c8 c9 c10 c11 c12 c13 d) : ∃ R D H Q V K, WM c1 c8 c10 c12 (p 1) (p 7) A (aX d) R D H Q V K ∧ SUM c7 (p 12) (cA c12 20 (p 1)) R D H := h.2.2.2.1
/-- only what is worked with changes -/
theorem IJ_k {c0' c4' c6' c9' c12' : Cl} (h : IJ p A X0 S0 L xs n c0 c1 c2 c3 c4 c5 c6 c7 c8 c9 c10 c11 c12 c13 d) (k0 : cR c0' 0 = cR c0 0) (k4 : Kp [3] c4 c4') (k6 : Kp [0, 1, 2, 3, 4, 5, 6, 7, 8, 9, 10, 11] c6 c6') (k9 : Kp [1, 2, 3, 4] c9 c9') (k12 : Kp SCR c12 c12') : IJ p A X0 S0 L xs (n + 1) c0' c1 c2 c3 c4' c5 c6' c7 c8 c9' c10 c11 c12' c13 d := by
  refine IJ_sc h k0 rfl (k9 0 (by decide)).2.2.1 (IJ_w h) ?_ k12 (adm_rf d) (Nat.le_add_right _ _)
  obtain ⟨-, -, -, -, r, -⟩ := h
  exact RWS_k (adm_rf d) (by omega) (fun k hk => (k4 k (by intro z; simp only [List.mem_cons, List.not_mem_nil, or_false] at z; omega)).2.2.1) k6 (k9 5 (by decide)).2.2.1 (k9 6 (by decide)).2.2.1 rfl rfl rfl rfl rfl rfl r
theorem IJ_n (h : IJ p A X0 S0 L xs n c0 c1 c2 c3 c4 c5 c6 c7 c8 c9 c10 c11 c12 c13 d) : IJ p A X0 S0 L xs (n + 1) c0 c1 c2 c3 c4 c5 c6 c7 c8 c9 c10 c11 c12 c13 d := IJ_k h rfl (kp_rf _ _) (kp_rf _ _) (kp_rf _ _) (kp_rf _ _)
/-- the state and its row -/
theorem IJ_s (h : IJ p A X0 S0 L xs n c0 c1 c2 c3 c4 c5 c6 c7 c8 c9 c10 c11 c12 c13 d) : ∃ R D H Q M V E K, SR c1 c8 (cR c10 0 (cR c11 7 (p 0))) (cA c12 20 (p 1)) R D H Q M V E K := by
  obtain ⟨-, f, -, ⟨R, D, H, Q, V, K, ⟨U, hU, w1, -, -, ⟨M, E, -, s⟩, -⟩, -⟩, -⟩ := h
  exact ⟨R, D, H, Q, M, V, E, K, by rw [f.1.2.2.2.1, w1]; exact s⟩
theorem st_4 : St_4 (IV p A X0 S0 L xs) (p 0) (p 1) := by
  intro n c0 c1 c2 c3 c4 c5 c6 c7 c8 c9 c10 c11 c12 c13 d h a1 a2
  have h' : IJ p A X0 S0 L xs n c0 c1 c2 c3 c4 c5 c6 c7 c8 c9 c10 c11 c12 c13 d := h
  obtain ⟨R, D, H, Q, M, V, E, K, s⟩ := IJ_s h'
  obtain ⟨x, e1, e2⟩ := q_head (p1 := a1) (p2 := a2) s.1.1 s.1.2.1
  exact ⟨x, x, e1, e2, rfl, IJ_n h'⟩
theorem st_5 : St_5 (IV p A X0 S0 L xs) (p 0) (p 1) := by
  intro n c0 c1 c2 c3 c4 c5 c6 c7 c8 c9 c10 c11 c12 c13 d h a1 a2
  have h' : IJ p A X0 S0 L xs n c0 c1 c2 c3 c4 c5 c6 c7 c8 c9 c10 c11 c12 c13 d := h
  obtain ⟨R, D, H, Q, M, V, E, K, s⟩ := IJ_s h'
  obtain ⟨x, e1, e2⟩ := q_room (p1 := a1) (p2 := a2) s.1.1 s.1.2.1 s.c s.1.2.2.2.1 s.1.2.2.2.2.1
  exact ⟨x, x, e1, e2, rfl, IJ_n h'⟩
theorem st_6 : St_6 (IV p A X0 S0 L xs) (p 0) (p 1) := by
  intro n c0 c1 c2 c3 c4 c5 c6 c7 c8 c9 c10 c11 c12 c13 d h a1 a2
  have h' : IJ p A X0 S0 L xs n c0 c1 c2 c3 c4 c5 c6 c7 c8 c9 c10 c11 c12 c13 d := h
  obtain ⟨R, D, H, Q, M, V, E, K, s⟩ := IJ_s h'
  obtain ⟨x, e1, e2⟩ := q_door (p1 := a1) (p2 := a2) s.1.1 s.1.2.2.2.2.2.1
  exact ⟨x, x, e1, e2, rfl, IJ_n h'⟩
theorem st_7 : St_7 (IV p A X0 S0 L xs) (p 0) (p 1) := by
  intro n c0 c1 c2 c3 c4 c5 c6 c7 c8 c9 c10 c11 c12 c13 d h a1 a2
  have h' : IJ p A X0 S0 L xs n c0 c1 c2 c3 c4 c5 c6 c7 c8 c9 c10 c11 c12 c13 d := h
  obtain ⟨R, D, H, Q, M, V, E, K, s⟩ := IJ_s h'
  obtain ⟨x, e1, e2⟩ := q_sense (p1 := a1) (p2 := a2) s.1.1 s.c s.1.2.2.1
  exact ⟨x, x, e1, e2, rfl, IJ_n h'⟩
theorem st_8 : St_8 (IV p A X0 S0 L xs) (p 0) (p 1) := by
  intro n c0 c1 c2 c3 c4 c5 c6 c7 c8 c9 c10 c11 c12 c13 d h a1 a2
  have h' : IJ p A X0 S0 L xs n c0 c1 c2 c3 c4 c5 c6 c7 c8 c9 c10 c11 c12 c13 d := h
  obtain ⟨R, D, H, Q, M, V, E, K, s⟩ := IJ_s h'
  obtain ⟨x, e1, e2⟩ := q_was (p1 := a1) (p2 := a2) s.1.1 s.c
  exact ⟨x, x, e1, e2, rfl, IJ_n h'⟩
theorem st_30 : St_30 (IV p A X0 S0 L xs) (p 0) (p 1) := by
  intro n c0 c1 c2 c3 c4 c5 c6 c7 c8 c9 c10 c11 c12 c13 d h a1
  have h' : IJ p A X0 S0 L xs n c0 c1 c2 c3 c4 c5 c6 c7 c8 c9 c10 c11 c12 c13 d := h
  obtain ⟨-, f, ⟨l, l4, t1, t2, -⟩, ⟨R, D, H, Q, V, K, ⟨U, hU, w1, w2, w3, ⟨M, E, m9, s⟩, ⟨o, o20, b1, b2, b3, b4⟩, ⟨b5, -⟩, N, n12, g1, g2, -⟩, -⟩, ⟨P, Pq, P', Pq', Z, Z', Y, Y', ⟨N', -, r1, r2, -⟩, -⟩, -⟩ := id h'
  have f7 := f.1.2.2.2.1
  have e0 : cR c10 0 (cR c11 7 (p 0)) = A 0 := by rw [f7]; exact w1
  rw [← e0] at s
  obtain ⟨u1, u2, u3, u4⟩ := s.1.2.2.2.2.2.2.1
  obtain ⟨⟨v1, v2, v3⟩, -, -, -, v4⟩ := s.1.2.2.2.2.2.2.2.1
  have he : cI c8 3 (cR c10 0 (cR c11 7 (p 0))) = su (ea1 (cA c12 20 (p 1))) 6 := by
    rw [u1, ← su_one E]
    exact (su_congr (fun _ _ => rfl)).trans ((u4 (fun _ _ _ => 1)).symm.trans (su_congr (fun _ _ => rfl)))
  obtain ⟨x, e1, e2⟩ := q_count (p := a1) s.1.1 s.1.2.1 he v4 (fun q => v1.trans (v3 (Nat.pos_of_ne_zero (fun z => q (by rw [z]; decide)))).symm) (r1.trans r2.symm) (by rw [f7]; exact g1.trans g2.symm) (by rw [f7]; exact b2.trans hU.symm) (by rw [f7]; exact b5) (t1.trans t2.symm)
  exact ⟨x, x, e1, e2, rfl, IJ_n h'⟩
/-- as searches ask for it -/
theorem IJ_o (h : IJ p A X0 S0 L xs n c0 c1 c2 c3 c4 c5 c6 c7 c8 c9 c10 c11 c12 c13 d) : ∃ R D H Q V K P Pq P' Pq' Z Z' Y Y', WM c1 c8 c10 c12 (p 1) (cR c11 7 (p 0)) A (aX d) R D H Q V K ∧ SUM c7 (p 12) (cA c12 20 (p 1)) R D H ∧ RW8 p c4 c6 c9 c11 c12 c13 d (S0 + 2753 * n) P Pq P' Pq' Z Z' Y Y' := by
  obtain ⟨-, f, -, ⟨R, D, H, Q, V, K, w, s⟩, ⟨P, Pq, P', Pq', Z, Z', Y, Y', r⟩, -⟩ := h
  exact ⟨R, D, H, Q, V, K, P, Pq, P', Pq', Z, Z', Y, Y', by rw [f.1.2.2.2.1]; exact w, s, r⟩
theorem IJ_sq {R D H Q V : Nat} {K : Nat → Nat} {P Pq P' Pq' Z Z' Y Y' : Nat} {c6' c7' c12' c13' : Cl} {d' : Ad} (h : IJ p A X0 S0 L xs n c0 c1 c2 c3 c4 c5 c6 c7 c8 c9 c10 c11 c12 c13 d) (w : WM c1 c8 c10 c12 (p 1) (cR c11 7 (p 0)) A (aX d) R D H Q V K) (r : RW8 p c4 c6 c9 c11 c12 c13 d (S0 + 2753 * n) P Pq P' Pq' Z Z' Y Y') (o : SQ c6 c7 c12 c13 d (p 11) (p 12) (cA c12 20 (p 1)) R D H [P, Pq, P', Pq'] Z Z' c6' c7' c12' c13' d') : IJ p A X0 S0 L xs (n + 1) c0 c1 c2 c3 c4 c5 c6' c7' c8 c9 c10 c11 c12' c13' d' := by
  obtain ⟨o1, o2, o3, o4, o5, o6, o7⟩ := o
  obtain ⟨g1, g2, g3⟩ := RW8_s (s' := S0 + 2753 * (n + 1)) (by omega) r o6
  have f := h.2.1
  rw [f.1.2.2.2.1] at w
  exact IJ_sc h rfl (o3 0 (by decide)).2.2.1 rfl ⟨R, D, H, Q, V, K, w, o5⟩ g1 (kp_wd o7 (by decide)) g2 g3
theorem st_17 : St_17 (IV p A X0 S0 L xs) (p 0) (p 1) := by
  intro n c0 c1 c2 c3 c4 c5 c6 c7 c8 c9 c10 c11 c12 c13 d h
  have h' : IJ p A X0 S0 L xs n c0 c1 c2 c3 c4 c5 c6 c7 c8 c9 c10 c11 c12 c13 d := h
  obtain ⟨R, D, H, Q, V, K, P, Pq, P', Pq', Z, Z', Y, Y', w, s, r⟩ := IJ_o h'
  have f := h'.2.1
  obtain ⟨rx, rm, e1, e2, e3, e4⟩ := q_fits w h'.2.2.2.2.2.1 f.1.2.2.2.2.2.1 f.2.2.2.2.2.1 r.2.1 r.2.2.1.1 r.2.2.1.2 s
  exact ⟨rx, rm, e1, e2, (lg_cmp_eq _ _).mpr e3, IJ_sq h' w r e4⟩
theorem st_18 : St_18 (IV p A X0 S0 L xs) (p 0) (p 1) := by
  intro n c0 c1 c2 c3 c4 c5 c6 c7 c8 c9 c10 c11 c12 c13 d h a1
  have h' : IJ p A X0 S0 L xs n c0 c1 c2 c3 c4 c5 c6 c7 c8 c9 c10 c11 c12 c13 d := h
  obtain ⟨R, D, H, Q, V, K, P, Pq, P', Pq', Z, Z', Y, Y', w, s, r⟩ := IJ_o h'
  have f := h'.2.1
  obtain ⟨rx, rm, e1, e2, e3, e4⟩ := q_who (p1 := a1) w h'.2.2.2.2.2.1 f.1.2.2.2.2.2.1 f.2.2.2.2.2.1 r.2.1 r.2.2.1.1 r.2.2.1.2 s
  exact ⟨rx, rm, e1, e2, e3, IJ_sq h' w r e4⟩
theorem st_19 : St_19 (IV p A X0 S0 L xs) (p 0) (p 1) := by
  intro n c0 c1 c2 c3 c4 c5 c6 c7 c8 c9 c10 c11 c12 c13 d h
  have h' : IJ p A X0 S0 L xs n c0 c1 c2 c3 c4 c5 c6 c7 c8 c9 c10 c11 c12 c13 d := h
  obtain ⟨R, D, H, Q, V, K, P, Pq, P', Pq', Z, Z', Y, Y', w, s, r⟩ := IJ_o h'
  have f := h'.2.1
  obtain ⟨rx, rm, e1, e2, e3, e4⟩ := q_first w h'.2.2.2.2.2.1 f.1.2.2.2.2.2.1 f.2.2.2.2.2.1 r.2.1 r.2.2.1.1 r.2.2.1.2 s
  exact ⟨rx, rm, e1, e2, e3, IJ_sq h' w r e4⟩
theorem st_20 : St_20 (IV p A X0 S0 L xs) (p 0) (p 1) := by
  intro n c0 c1 c2 c3 c4 c5 c6 c7 c8 c9 c10 c11 c12 c13 d h a1
  have h' : IJ p A X0 S0 L xs n c0 c1 c2 c3 c4 c5 c6 c7 c8 c9 c10 c11 c12 c13 d := h
  obtain ⟨R, D, H, Q, V, K, P, Pq, P', Pq', Z, Z', Y, Y', w, s, r⟩ := IJ_o h'
  have f := h'.2.1
  obtain ⟨rx, rm, e1, e2, e3, e4⟩ := q_next (p1 := a1) w h'.2.2.2.2.2.1 f.1.2.2.2.2.2.1 f.2.2.2.2.2.1 r.2.1 r.2.2.1.1 r.2.2.1.2 s
  exact ⟨rx, rm, e1, e2, e3, IJ_sq h' w r e4⟩
theorem st_25 : St_25 (IV p A X0 S0 L xs) (p 0) (p 1) := by
  intro n c0 c1 c2 c3 c4 c5 c6 c7 c8 c9 c10 c11 c12 c13 d h a1 a2 a3
  have h' : IJ p A X0 S0 L xs n c0 c1 c2 c3 c4 c5 c6 c7 c8 c9 c10 c11 c12 c13 d := h
  obtain ⟨R, D, H, Q, V, K, P, Pq, P', Pq', Z, Z', Y, Y', w, s, r⟩ := IJ_o h'
  have f := h'.2.1
  obtain ⟨rx, rm, e1, e2, e3, e4⟩ := q_gather (p1 := a1) (p2 := a2) (p3 := a3) w h'.2.2.2.2.2.1 f.1.2.2.2.2.2.1 f.2.2.2.2.2.1 r.2.1 r.2.2.1.1 r.2.2.1.2 s
  exact ⟨rx, rm, e1, e2, e3, IJ_sq h' w r e4⟩
theorem st_21 : St_21 (IV p A X0 S0 L xs) (p 0) (p 1) := by
  intro n c0 c1 c2 c3 c4 c5 c6 c7 c8 c9 c10 c11 c12 c13 d h a1
  have h' : IJ p A X0 S0 L xs n c0 c1 c2 c3 c4 c5 c6 c7 c8 c9 c10 c11 c12 c13 d := h
  obtain ⟨R, D, H, Q, V, K, P, Pq, P', Pq', Z, Z', Y, Y', w, s, r⟩ := IJ_o h'
  obtain ⟨rx, rm, e1, e2, e3, e4, -, e5, -, e6⟩ := q_known (p1 := a1) w h'.2.2.2.2.2.1
  exact ⟨rx, rm, e1, e2, e3, IJ_k h' rfl (kp_rf _ _) e4 e5 (kp_wd e6 (by decide))⟩
theorem st_22 : St_22 (IV p A X0 S0 L xs) (p 0) (p 1) := by
  intro n c0 c1 c2 c3 c4 c5 c6 c7 c8 c9 c10 c11 c12 c13 d h
  have h' : IJ p A X0 S0 L xs n c0 c1 c2 c3 c4 c5 c6 c7 c8 c9 c10 c11 c12 c13 d := h
  obtain ⟨R, D, H, Q, V, K, P, Pq, P', Pq', Z, Z', Y, Y', w, s, r⟩ := IJ_o h'
  obtain ⟨rx, rm, e1, e2, e3, e4, -, e5, -, e6⟩ := q_watch w h'.2.2.2.2.2.1
  exact ⟨rx, rm, e1, e2, e3, IJ_k h' rfl (kp_rf _ _) e4 e5 (kp_wd e6 (by decide))⟩
theorem st_23 : St_23 (IV p A X0 S0 L xs) (p 0) (p 1) := by
  intro n c0 c1 c2 c3 c4 c5 c6 c7 c8 c9 c10 c11 c12 c13 d h a1 a2 a3
  have h' : IJ p A X0 S0 L xs n c0 c1 c2 c3 c4 c5 c6 c7 c8 c9 c10 c11 c12 c13 d := h
  obtain ⟨R, D, H, Q, V, K, P, Pq, P', Pq', Z, Z', Y, Y', w, s, r⟩ := IJ_o h'
  have f := h'.2.1
  obtain ⟨rx, rm, e1, e2, e3, e4, -, e5, -, e6, e7⟩ := q_secret (c0 := c0) (c6 := c6) (c13 := c13) (d := d) (p1 := a1) (p2 := a2) (p3 := a3) w h'.2.2.2.2.2.1 f.1.2.2.2.2.2.2.1 f.2.1
  refine ⟨rx, rm, e1, e2, e3, ?_⟩
  rw [e6]
  exact IJ_k h' (e4 0 (by decide)).2.2.1 (kp_rf _ _) e5 (kp_rf _ _) (kp_wd e7 (by decide))
theorem st_24 : St_24 (IV p A X0 S0 L xs) (p 0) (p 1) := by
  intro n c0 c1 c2 c3 c4 c5 c6 c7 c8 c9 c10 c11 c12 c13 d h a1 a2 a3
  have h' : IJ p A X0 S0 L xs n c0 c1 c2 c3 c4 c5 c6 c7 c8 c9 c10 c11 c12 c13 d := h
  obtain ⟨R, D, H, Q, V, K, P, Pq, P', Pq', Z, Z', Y, Y', w, s, r⟩ := IJ_o h'
  have f := h'.2.1
  obtain ⟨rx, rm, e1, e2, e3, e4, -, e5, -, e6, e7⟩ := q_theft (c0 := c0) (p1 := a1) (p2 := a2) (p3 := a3) w h'.2.2.2.2.2.1 f.1.2.2.2.2.2.2.1 f.2.1 r.2.1 r.2.2.1.1 r.2.2.1.2
  obtain ⟨g1, g2, g3⟩ := RW8_s (s' := S0 + 2753 * (n + 1)) (by omega) r e6
  exact ⟨rx, rm, e1, e2, e3, IJ_sc h' (e4 0 (by decide)).2.2.1 rfl rfl (IJ_w h') g1 (kp_wd e7 (by decide)) g2 (by omega)⟩
theorem st_26 : St_26 (IV p A X0 S0 L xs) (p 0) (p 1) := by
  intro n c0 c1 c2 c3 c4 c5 c6 c7 c8 c9 c10 c11 c12 c13 d h a1 a2
  have h' : IJ p A X0 S0 L xs n c0 c1 c2 c3 c4 c5 c6 c7 c8 c9 c10 c11 c12 c13 d := h
  obtain ⟨R, D, H, Q, V, K, P, Pq, P', Pq', Z, Z', Y, Y', w, s, r⟩ := IJ_o h'
  have f := h'.2.1
  have y := r.2.2.2.1
  have f14 := f.1.2.2.2.2.2.2.2
  rw [← f14] at y
  obtain ⟨rx, rm, e1, e2, e3, e4, -, e5, -, e6, e7, e8⟩ := q_messages (c6 := c6) (c13 := c13) (p1 := a1) (p2 := a2) w y
  rw [f14] at e6
  have g := RW8_m (s' := S0 + 2753 * (n + 1)) (by omega) e4 r e6 e7
  exact ⟨rx, rm, e1, e2, (lg_cmp_eq _ _).mpr e3, IJ_sc h' rfl rfl (e5 0 (by decide)).2.2.1 (IJ_w h') g (kp_wd e8 (by decide)) (adm_rf d) (Nat.le_add_right _ _)⟩
theorem st_27 : St_27 (IV p A X0 S0 L xs) (p 0) (p 1) := by
  intro n c0 c1 c2 c3 c4 c5 c6 c7 c8 c9 c10 c11 c12 c13 d h a1
  have h' : IJ p A X0 S0 L xs n c0 c1 c2 c3 c4 c5 c6 c7 c8 c9 c10 c11 c12 c13 d := h
  obtain ⟨R, D, H, Q, V, K, P, Pq, P', Pq', Z, Z', Y, Y', w, s, r⟩ := IJ_o h'
  obtain ⟨rx, rm, e1, e2, e3, e4, -⟩ := q_swaps (c6 := c6) (c9 := c9) (p1 := a1) w
  exact ⟨rx, rm, e1, e2, e3, IJ_k h' rfl (kp_rf _ _) e4 (kp_rf _ _) (kp_rf _ _)⟩
theorem st_15 : St_15 (IV p A X0 S0 L xs) (p 0) (p 1) := by
  intro n c0 c1 c2 c3 c4 c5 c6 c7 c8 c9 c10 c11 c12 c13 d h a1 a2
  have h' : IJ p A X0 S0 L xs n c0 c1 c2 c3 c4 c5 c6 c7 c8 c9 c10 c11 c12 c13 d := h
  obtain ⟨R, D, H, Q, V, K, P, Pq, P', Pq', Z, Z', Y, Y', w, s, r⟩ := IJ_o h'
  obtain ⟨rx, rm, e1, e2, e3, e4, e5⟩ := q_would (p1 := a1) (p2 := a2) w (RRx_rr r.1)
  exact ⟨rx, rm, e1, e2, e3, IJ_k h' rfl e4 (kp_rf _ _) (kp_rf _ _) (kp_wd e5 (by decide))⟩
end Inv
