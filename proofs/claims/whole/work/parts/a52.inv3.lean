/-! ===== calls that move ===== -/
section Inv3
variable {p A : Nat → Nat} {X0 S0 L : Nat} {xs : Nat → Int32} {n : Nat} {c0 c1 c2 c3 c4 c5 c6 c7 c8 c9 c10 c11 c12 c13 : Cl} {d : Ad}
theorem IJ_op {c4' c7' c8' c10' c12' : Cl} (h : IJ p A X0 S0 L xs n c0 c1 c2 c3 c4 c5 c6 c7 c8 c9 c10 c11 c12 c13 d) (hw : ∃ R D H Q V K, WM c1 c8' c10' c12' (p 1) (p 7) A (aX d) R D H Q V K ∧ SUM c7' (p 12) (cA c12' 20 (p 1)) R D H) (h8 : ∀ a, (∀ i, i ≤ 20 → a ≠ A i) → Sm8 c8 a c8' a) (h10 : Oth (p 7) c10 c10') (k12 : Kp [17, 18, 19, 20, 21, 22, 23] c12 c12') (k4 : Kp [3] c4 c4') (k7 : cR c7' 0 = cR c7 0) : IJ p A X0 S0 L xs (n + 1) c0 c1 c2 c3 c4' c5 c6 c7' c8' c9 c10' c11 c12' c13 d := by
  obtain ⟨b, f, t, -, r, q, i, x1, x2, x3, x4⟩ := h
  refine ⟨b, PF_k rfl rfl rfl rfl k7 rfl (kp_rf _ _) f, TP_c t rfl rfl (by rw [(k12 1 (by decide)).1]) (by rw [(k12 0 (by decide)).2.2.2.1]), hw, ?_, Pw_c (k12 25 (by decide)).2.2.2.1 q, IMS_c (fun a _ z _ => h8 a z) (fun _ _ => Sm1.rf _ _) (fun a _ z => oth_sw h10 z) rfl (kp_hi k12 (by decide)) (Nat.le_refl _) i, x1, by omega, x3, x4⟩
  exact RWS_k (adm_rf d) (by omega) (fun k hk => (k4 k (by intro z; simp only [List.mem_cons, List.not_mem_nil, or_false] at z; omega)).2.2.1) (kp_rf _ _) rfl rfl rfl rfl (k12 2 (by decide)).1 (k12 3 (by decide)).2.2.2.1 (k12 5 (by decide)).2.2.2.1 (k12 6 (by decide)).2.2.2.1 r
theorem OP_w {B2 sr w X R D H Q V : Nat} {K : Nat → Nat} {c7' c8' c10' c12' : Cl} (h : WM c1 c8 c10 c12 B2 w A X R D H Q V K) (hs : SUM c7 sr (cA c12 20 B2) R D H) (o : OP c1 c7 c8 c10 c12 B2 sr w A X R D H Q V K c7' c8' c10' c12') : (WM c1 c8' c10' c12' B2 w A X R D H Q V K ∧ SUM c7' sr (cA c12' 20 B2) R D H) ∧ cR c7' 0 = cR c7 0 := by
  obtain ⟨o1, -, -, -, o5⟩ := o
  rcases o5 with ⟨e, g⟩ | e
  · rw [e]; exact ⟨⟨o1, WM_sum h g hs⟩, rfl⟩
  · rw [e]; exact ⟨⟨o1, SUM_0⟩, rfl⟩
/-- behind a call that moves -/
theorem IJ_mv {R D H Q V : Nat} {K : Nat → Nat} {c7' c8' c10' c12' : Cl} (h : IJ p A X0 S0 L xs n c0 c1 c2 c3 c4 c5 c6 c7 c8 c9 c10 c11 c12 c13 d) (w : WM c1 c8 c10 c12 (p 1) (cR c11 7 (p 0)) A (aX d) R D H Q V K) (s : SUM c7 (p 12) (cA c12 20 (p 1)) R D H) (o : OP c1 c7 c8 c10 c12 (p 1) (cR c11 12 (p 0)) (cR c11 7 (p 0)) A (aX d) R D H Q V K c7' c8' c10' c12') : IJ p A X0 S0 L xs (n + 1) c0 c1 c2 c3 c4 c5 c6 c7' c8' c9 c10' c11 c12' c13 d := by
  have f := h.2.1
  rw [f.1.2.2.2.1] at w
  rw [f.1.2.2.2.1, f.1.2.2.2.2.2.1] at o
  obtain ⟨g1, g2⟩ := OP_w w s o
  obtain ⟨-, o2, o3, o4, -⟩ := o
  exact IJ_op h ⟨R, D, H, Q, V, K, g1⟩ o2 o3 (kp_wd o4 (by decide)) (kp_rf _ _) g2
theorem st_9 : St_9 (IV p A X0 S0 L xs) (p 0) (p 1) := by
  intro n c0 c1 c2 c3 c4 c5 c6 c7 c8 c9 c10 c11 c12 c13 d h a1 a2 a3 _
  have h' : IJ p A X0 S0 L xs n c0 c1 c2 c3 c4 c5 c6 c7 c8 c9 c10 c11 c12 c13 d := h
  obtain ⟨R, D, H, Q, V, K, P, Pq, P', Pq', Z, Z', Y, Y', w, s, r⟩ := IJ_o h'
  obtain ⟨rx, rm, e1, e2, e3, o⟩ := q_go (c7 := c7) (p1 := a1) (p2 := a2) (p3 := a3) h'.1.1 w
  exact ⟨rx, rm, e1, e2, e3, IJ_mv h' w s o⟩
theorem st_10 : St_10 (IV p A X0 S0 L xs) (p 0) (p 1) := by
  intro n c0 c1 c2 c3 c4 c5 c6 c7 c8 c9 c10 c11 c12 c13 d h
  have h' : IJ p A X0 S0 L xs n c0 c1 c2 c3 c4 c5 c6 c7 c8 c9 c10 c11 c12 c13 d := h
  obtain ⟨R, D, H, Q, V, K, P, Pq, P', Pq', Z, Z', Y, Y', w, s, r⟩ := IJ_o h'
  obtain ⟨rx, rm, e1, e2, e3, o⟩ := q_rest (c7 := c7) h'.1.1 w
  exact ⟨rx, rm, e1, e2, e3, IJ_mv h' w s o⟩
theorem st_11 : St_11 (IV p A X0 S0 L xs) (p 0) (p 1) := by
  intro n c0 c1 c2 c3 c4 c5 c6 c7 c8 c9 c10 c11 c12 c13 d h a1
  have h' : IJ p A X0 S0 L xs n c0 c1 c2 c3 c4 c5 c6 c7 c8 c9 c10 c11 c12 c13 d := h
  obtain ⟨R, D, H, Q, V, K, P, Pq, P', Pq', Z, Z', Y, Y', w, s, r⟩ := IJ_o h'
  obtain ⟨rx, rm, e1, e2, e3, o⟩ := q_die (c7 := c7) (p1 := a1) h'.1.1 w
  exact ⟨rx, rm, e1, e2, e3, IJ_mv h' w s o⟩
theorem st_12 : St_12 (IV p A X0 S0 L xs) (p 0) (p 1) := by
  intro n c0 c1 c2 c3 c4 c5 c6 c7 c8 c9 c10 c11 c12 c13 d h a1 a2 ha
  have h' : IJ p A X0 S0 L xs n c0 c1 c2 c3 c4 c5 c6 c7 c8 c9 c10 c11 c12 c13 d := h
  obtain ⟨R, D, H, Q, V, K, P, Pq, P', Pq', Z, Z', Y, Y', w, s, r⟩ := IJ_o h'
  obtain ⟨rx, rm, e1, e2, e3, o⟩ := q_open (c7 := c7) (p1 := a1) ha h'.1.1 w
  exact ⟨rx, rm, e1, e2, e3, IJ_mv h' w s o⟩
theorem st_13 : St_13 (IV p A X0 S0 L xs) (p 0) (p 1) := by
  intro n c0 c1 c2 c3 c4 c5 c6 c7 c8 c9 c10 c11 c12 c13 d h
  have h' : IJ p A X0 S0 L xs n c0 c1 c2 c3 c4 c5 c6 c7 c8 c9 c10 c11 c12 c13 d := h
  obtain ⟨R, D, H, Q, V, K, P, Pq, P', Pq', Z, Z', Y, Y', w, s, r⟩ := IJ_o h'
  obtain ⟨rx, rm, e1, e2, e3, o⟩ := q_undo (c7 := c7) h'.1.1 w
  exact ⟨rx, rm, e1, e2, e3, IJ_mv h' w s o⟩
theorem st_28 : St_28 (IV p A X0 S0 L xs) (p 0) (p 1) := by
  intro n c0 c1 c2 c3 c4 c5 c6 c7 c8 c9 c10 c11 c12 c13 d h a1
  have h' : IJ p A X0 S0 L xs n c0 c1 c2 c3 c4 c5 c6 c7 c8 c9 c10 c11 c12 c13 d := h
  obtain ⟨R, D, H, Q, V, K, P, Pq, P', Pq', Z, Z', Y, Y', w, s, r⟩ := IJ_o h'
  obtain ⟨rx, rm, e1, e2, e3, o⟩ := q_seed (c7 := c7) (p1 := a1) w
  exact ⟨rx, rm, e1, e2, e3, IJ_mv h' w s o⟩
theorem st_16 : St_16 (IV p A X0 S0 L xs) (p 0) (p 1) := by
  intro n c0 c1 c2 c3 c4 c5 c6 c7 c8 c9 c10 c11 c12 c13 d h a1 a2 a3
  have h' : IJ p A X0 S0 L xs n c0 c1 c2 c3 c4 c5 c6 c7 c8 c9 c10 c11 c12 c13 d := h
  obtain ⟨R, D, H, Q, V, K, P, Pq, P', Pq', Z, Z', Y, Y', w, s, r⟩ := IJ_o h'
  obtain ⟨rx, rm, e1, e2, e3, o⟩ := q_tell (c7 := c7) (p1 := a1) (p2 := a2) (p3 := a3) w
  exact ⟨rx, rm, e1, e2, e3, IJ_mv h' w s o⟩
theorem st_14 : St_14 (IV p A X0 S0 L xs) (p 0) (p 1) := by
  intro n c0 c1 c2 c3 c4 c5 c6 c7 c8 c9 c10 c11 c12 c13 d h a1 a2
  have h' : IJ p A X0 S0 L xs n c0 c1 c2 c3 c4 c5 c6 c7 c8 c9 c10 c11 c12 c13 d := h
  obtain ⟨R, D, H, Q, V, K, P, Pq, P', Pq', Z, Z', Y, Y', w, s, r⟩ := IJ_o h'
  have f := h'.2.1
  obtain ⟨rx, rm, e1, e2, e3, k4, e5, e6, e7, e8, k12⟩ := q_run (c7 := c7) (p1 := a1) (p2 := a2) h'.1.1 w (RRx_rr r.1)
  rw [f.1.2.2.2.1] at e6 e8
  rw [f.1.2.2.2.2.2.1] at e5
  refine ⟨rx, rm, e1, e2, e3, ?_⟩
  rcases e5 with ⟨g1, g2⟩ | g1
  · exact IJ_op h' ⟨R, D, H, Q, V, K, e6, by rw [g1, g2]; exact s⟩ e7 e8 (kp_wd k12 (by decide)) k4 (by rw [g1])
  · exact IJ_op h' ⟨R, D, H, Q, V, K, e6, by rw [g1]; exact SUM_0⟩ e7 e8 (kp_wd k12 (by decide)) k4 (by rw [g1]; rfl)
theorem st_29 : St_29 (IV p A X0 S0 L xs) (p 0) (p 1) := by
  intro n c0 c1 c2 c3 c4 c5 c6 c7 c8 c9 c10 c11 c12 c13 d h a1 a2 a3 a4 a5
  have h' : IJ p A X0 S0 L xs n c0 c1 c2 c3 c4 c5 c6 c7 c8 c9 c10 c11 c12 c13 d := h
  obtain ⟨R, D, H, Q, V, K, P, Pq, P', Pq', Z, Z', Y, Y', w, s, r⟩ := IJ_o h'
  have f := h'.2.1
  have f9 := f.1.2.2.2.2.1
  have f7 := f.1.2.2.2.1
  obtain ⟨rx, rm, e1, e2, e3, o8, k11, k12, m20⟩ := q_nights (p1 := a1) (p2 := a2) (p3 := a3) (p4 := a4) (p5 := a5) w (by rw [f9]; exact (h'.1.2.1 0 (by decide)).2)
  rw [f9] at o8
  rw [f7] at w
  refine ⟨rx, rm, e1, e2, e3, ?_⟩
  obtain ⟨b, -, t, -, -, q, i, x1, x2, x3, x4⟩ := h'
  refine ⟨b, PF_k rfl rfl rfl rfl rfl rfl (kp_wd k11 (by decide)) f, TP_c t (by rw [(k11 1 (by decide)).1]) (by rw [(k11 0 (by decide)).2.2.2.1]) (by rw [(k12 1 (by decide)).1]) (by rw [(k12 0 (by decide)).2.2.2.1]), ⟨R, D, H, Q, V, K, WM_c (fun i hi => oth_sm o8 (b.2.1 i hi).2) (fun _ _ => Sm1.rf _ _) (Sw.rf _ _) m20 (by rw [(k12 22 (by decide)).2.2.2.1]) (by rw [(k12 21 (by decide)).1]) (by rw [(k12 23 (by decide)).1]) (Nat.le_refl _) w, WM_sum w (fun j _ hj => m20 j (by omega)) s⟩, ?_, Pw_c (k12 25 (by decide)).2.2.2.1 q, IMS_c (fun a _ _ z => oth_sm o8 z) (fun _ _ => Sm1.rf _ _) (fun _ _ _ => Sw.rf _ _) (by rw [(k11 8 (by decide)).2.2.2.2.2]) (kp_hi k12 (by decide)) (Nat.le_refl _) i, x1, by omega, x3, x4⟩
  exact RWS_k (adm_rf d) (by omega) (fun _ _ => rfl) (kp_rf _ _) rfl rfl (by rw [(k11 6 (by decide)).1]) (by rw [(k11 5 (by decide)).2.2.2.2.2]) (k12 2 (by decide)).1 (k12 3 (by decide)).2.2.2.1 (k12 5 (by decide)).2.2.2.1 (k12 6 (by decide)).2.2.2.1 ⟨P, Pq, P', Pq', Z, Z', Y, Y', r⟩
/-- the tape alone -/
theorem IJ_tp {c11' c12' : Cl} (h : IJ p A X0 S0 L xs n c0 c1 c2 c3 c4 c5 c6 c7 c8 c9 c10 c11 c12 c13 d) (t : TP c11' (p 0) c12' (p 1)) (k11 : Kp [0, 1] c11 c11') (k12 : Kp [0, 1] c12 c12') : IJ p A X0 S0 L xs (n + 1) c0 c1 c2 c3 c4 c5 c6 c7 c8 c9 c10 c11' c12' c13 d := by
  obtain ⟨b, f, -, ⟨R, D, H, Q, V, K, w, s⟩, r, q, i, x1, x2, x3, x4⟩ := h
  have m20 := (k12 20 (by decide)).2.2.2.1
  refine ⟨b, PF_k rfl rfl rfl rfl rfl rfl (kp_wd k11 (by decide)) f, t, ⟨R, D, H, Q, V, K, WM_c (fun _ _ => Sm8.rf _ _) (fun _ _ => Sm1.rf _ _) (Sw.rf _ _) (fun j _ => by rw [m20]) (by rw [(k12 22 (by decide)).2.2.2.1]) (by rw [(k12 21 (by decide)).1]) (by rw [(k12 23 (by decide)).1]) (Nat.le_refl _) w, by rw [m20]; exact s⟩, ?_, Pw_c (k12 25 (by decide)).2.2.2.1 q, IMS_c (fun _ _ _ _ => Sm8.rf _ _) (fun _ _ => Sm1.rf _ _) (fun _ _ _ => Sw.rf _ _) (by rw [(k11 8 (by decide)).2.2.2.2.2]) (kp_hi k12 (by decide)) (Nat.le_refl _) i, x1, by omega, x3, x4⟩
  exact RWS_k (adm_rf d) (by omega) (fun _ _ => rfl) (kp_rf _ _) rfl rfl (by rw [(k11 6 (by decide)).1]) (by rw [(k11 5 (by decide)).2.2.2.2.2]) (k12 2 (by decide)).1 (k12 3 (by decide)).2.2.2.1 (k12 5 (by decide)).2.2.2.1 (k12 6 (by decide)).2.2.2.1 r
theorem st_0 : St_0 (IV p A X0 S0 L xs) (p 0) (p 1) := by
  intro n c0 c1 c2 c3 c4 c5 c6 c7 c8 c9 c10 c11 c12 c13 d h a1 a2 a3 a4 a5
  have h' : IJ p A X0 S0 L xs n c0 c1 c2 c3 c4 c5 c6 c7 c8 c9 c10 c11 c12 c13 d := h
  obtain ⟨rx, rm, e1, e2, e3, e4, e5, e6⟩ := q_feed (p1 := a1) (p2 := a2) (p3 := a3) (p4 := a4) (p5 := a5) h'.2.2.1
  exact ⟨rx, rm, e1, e2, e3, IJ_tp h' e4 e5 e6⟩
theorem st_1 : St_1 (IV p A X0 S0 L xs) (p 0) (p 1) := by
  intro n c0 c1 c2 c3 c4 c5 c6 c7 c8 c9 c10 c11 c12 c13 d h a1
  have h' : IJ p A X0 S0 L xs n c0 c1 c2 c3 c4 c5 c6 c7 c8 c9 c10 c11 c12 c13 d := h
  obtain ⟨rx, rm, e1, e2, e3, e4, e5, e6⟩ := q_end2 (p := a1) h'.2.2.1
  exact ⟨rx, rm, e1, e2, e3, IJ_tp h' e4 e5 e6⟩
end Inv3
