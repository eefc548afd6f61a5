section Ops2
variable {c1 c7 c8 c8' c10 c11 c12 : Cl} {B B2 : Nat} {A : Nat → Nat} {X R D H Q L M E : Nat} {K : Nat → Nat}
theorem wr_now {w U : Nat} {S S' W : Nat → Int32} {x : Int32} (inj : ∀ i j, i ≤ 20 → j ≤ 20 → A i = A j → i = j) (h : WR c1 c8 c10 w A S W U x X R D H Q L K) (hO : Oth (A 0) c8 c8') (h0 : cR c8' 0 (A 0) = cR c8 0 (A 0)) (m9 : M ≤ 9999) (hs : SR c1 c8' (A 0) S' R D H Q M L E K) (hS : ∀ j, 184 ≤ j → S' j = S j) : WR c1 c8' c10 w A S' W U x X R D H Q L K := by
  obtain ⟨a1, a2, a3, -, ⟨o, o20, b1, b2, b3, b4⟩, a4, N, n12, t1, t2, t3⟩ := h
  have sm : ∀ i, i ≤ 20 → i ≠ 0 → Sm8 c8 (A i) c8' (A i) := fun i q z1 => oth_sm hO (fun e : A i = A 0 => z1 (inj _ _ q (by omega) e))
  refine ⟨a1, a2, fun i q => ?_, ⟨M, E, m9, hs⟩, ⟨o, o20, b1, b2, b3, fun i q => ?_⟩, a4, N, n12, t1, by rw [hS 220 (by decide)]; exact t2, fun i q => ?_⟩
  · by_cases z : i = 0
    · subst z; rw [h0]; exact a3 0 (by decide)
    · rw [(sm i q z).1]; exact a3 i q
  · obtain ⟨M2, E2, m92, s2⟩ := b4 i q
    have := Nat.mod_lt (o + i) (show 0 < 20 by decide)
    exact ⟨M2, E2, m92, SR_c (sm _ (by omega) (by omega)) (Sm1.rf _ _) (fun j z => rfl) s2⟩
  · rw [hS _ (show 184 ≤ 184 + 3 * i by omega), hS _ (show 184 ≤ 184 + 3 * i + 1 by omega), hS _ (show 184 ≤ 184 + 3 * i + 2 by omega)]
    exact t3 i q
theorem ot_a {a : Nat} (hO : Oth (A 0) c8 c8') (ha : ∀ i, i ≤ 20 → a ≠ A i) : Sm8 c8 a c8' a := oth_sm hO (ha 0 (by decide))
theorem q_die {p1 : Int32} (inj : ∀ i j, i ≤ 20 → j ≤ 20 → A i = A j → i = j) (h : WM c1 c8 c10 c12 B2 (cR c11 7 B) A X R D H Q L K) : ∃ rx rm, F_134 c1 c7 c8 c10 c11 B p1 = some rx ∧ F_247 c12 B2 p1 = some rm ∧ rx.1 = rm.1 ∧ OP c1 c7 c8 c10 c12 B2 (cR c11 12 B) (cR c11 7 B) A X R D H Q L K rx.2.1 rx.2.2 c10 rm.2 := by
  obtain ⟨U, hU, hw⟩ := id h
  obtain ⟨a1, a2, a3, ⟨M, E, m9, s⟩, -⟩ := id hw
  have s' := s
  rw [← a1] at s'
  have hN := s'.1.1
  have h6 := hN.2.2.1.2.2
  unfold F_134 F_247
  rcases is1_of (n := H) (p := p1) (by omega) with q | ⟨q, i, hi, rfl⟩
  · exact ⟨_, _, ob_mk (f_158 hN) (in_pos q rfl), ob_mk (f_221 hN) (in_pos q rfl), rfl, op_rf h⟩
  have q0 : ¬ is1 H (nI i) = 0 := by rw [q]; decide
  have g1 := f_83 hi h6 s'.1.2.1
  by_cases z : lv (cA c12 20 B2) i = 0
  · exact ⟨_, _, ob_mk (f_158 hN) (in_neg q0 (ob_mk g1 (in_pos z rfl))), ob_mk (f_221 hN) (in_neg q0 (ob_mk (f_224 (by omega)) (in_pos z rfl))), rfl, op_rf h⟩
  obtain ⟨r, r1, rO, rR, rS⟩ := die_ok hi s
  rw [← a1] at r1
  have ix : ((40 : Int32) + (6 * nI i)) + 5 = nI (40 + 6 * i + 5) := ix_h i 5
  refine ⟨_, _, ob_mk (f_158 hN) (in_neg q0 (ob_mk g1 (in_neg z (ob_mk r1 rfl)))), ob_mk (f_221 hN) (in_neg q0 (ob_mk (f_224 (by omega)) (in_neg z (ob_mk al_4 (ob_mk (ald_ok (i := 7) (by decide) (by decide)) (ob_mk (v := sA c12 20 B2 (upd (cA c12 20 B2) (40 + 6 * i + 5) (cA c12 20 B2 4 + cA c12 20 B2 7))) (by rw [ix]; exact ast_ok (by omega) (by decide)) rfl)))))), rfl, ⟨U, hU, ?_⟩, fun a ha => ot_a rO ha, oth_rf _ _, kp_A (by decide), Or.inr rfl⟩
  dsimp only
  rw [cA_same, cA_ne (by decide), cI_sA]
  exact wr_now inj hw rO rR m9 rS (fun j q => pk_un (by omega))
theorem q_open {p1 p2 : Int32} (hp : p2 = 0 ∨ p2 = 1) (inj : ∀ i j, i ≤ 20 → j ≤ 20 → A i = A j → i = j) (h : WM c1 c8 c10 c12 B2 (cR c11 7 B) A X R D H Q L K) : ∃ rx rm, F_135 c1 c7 c8 c10 c11 B p1 p2 = some rx ∧ F_248 c12 B2 p1 p2 = some rm ∧ rx.1 = rm.1 ∧ OP c1 c7 c8 c10 c12 B2 (cR c11 12 B) (cR c11 7 B) A X R D H Q L K rx.2.1 rx.2.2 c10 rm.2 := by
  obtain ⟨U, hU, hw⟩ := id h
  obtain ⟨a1, a2, a3, ⟨M, E, m9, s⟩, -⟩ := id hw
  have s' := s
  rw [← a1] at s'
  have hN := s'.1.1
  have d10 := hN.2.1.2.2
  unfold F_135 F_248
  rcases is1_of (n := D) (p := p1) (by omega) with q | ⟨q, i, hi, rfl⟩
  · exact ⟨_, _, ob_mk (f_161 hN) (in_pos q rfl), ob_mk (f_220 hN) (in_pos q rfl), rfl, op_rf h⟩
  have q0 : ¬ is1 D (nI i) = 0 := by rw [q]; decide
  have ix : ((10 : Int32) + (3 * nI i)) + 2 = nI (10 + 3 * i + 2) := ix_d i 2
  obtain ⟨-, -, g2, -⟩ := s'.1.2.2.2.2.2.1 i hi
  have b01 := bit1_01 (cI c8 2 (cR c10 0 (cR c11 7 B))) (nI i)
  rw [g2] at b01
  have t4 : ((if cA c12 20 B2 (10 + 3 * i + 2) = 1 then some 1 else some 0) : Option Int32) = some (cA c12 20 B2 (10 + 3 * i + 2)) := by
    rcases b01 with e | e <;> rw [e] <;> rfl
  have g1 : F_85 c8 (cR c10 0 (cR c11 7 B)) (nI i) = some (cA c12 20 B2 (10 + 3 * i + 2)) := by rw [f_85, g2]
  have ld : ald (cA c12 20 B2) 221 ((10 + (3 * nI i)) + 2) = some (cA c12 20 B2 (10 + 3 * i + 2)) := by rw [ix]; exact ald_ok (by omega) (by decide)
  by_cases z : cA c12 20 B2 (10 + 3 * i + 2) = p2
  · exact ⟨_, _, ob_mk (f_161 hN) (in_neg q0 (ob_mk g1 (in_pos z rfl))), ob_mk (f_220 hN) (in_neg q0 (ob_mk ld (ob_mk t4 (in_pos z rfl)))), rfl, op_rf h⟩
  obtain ⟨r, r1, rO, rR, rS⟩ := open_ok hi s
  rw [← a1] at r1
  have t7 : ((if p2 = 0 then some 0 else some 1) : Option Int32) = some (if cA c12 20 B2 (10 + 3 * i + 2) = 0 then 1 else 0) := by
    rcases hp with rfl | rfl
    · rw [if_pos rfl, if_neg z]
    · rcases b01 with e | e
      · rw [e]; rfl
      · exact absurd e z
  refine ⟨_, _, ob_mk (f_161 hN) (in_neg q0 (ob_mk g1 (in_neg z (ob_mk r1 rfl)))), ob_mk (f_220 hN) (in_neg q0 (ob_mk ld (ob_mk t4 (in_neg z (ob_mk t7 (ob_mk (v := sA c12 20 B2 (upd (cA c12 20 B2) (10 + 3 * i + 2) (if cA c12 20 B2 (10 + 3 * i + 2) = 0 then 1 else 0))) (by rw [ix]; exact ast_ok (by omega) (by decide)) rfl)))))), rfl, ⟨U, hU, ?_⟩, fun a ha => ot_a rO ha, oth_rf _ _, kp_A (by decide), Or.inr rfl⟩
  dsimp only
  rw [cA_same, cA_ne (by decide), cI_sA]
  exact wr_now inj hw rO rR m9 rS (fun j q => pk_un (by omega))
theorem q_undo (inj : ∀ i j, i ≤ 20 → j ≤ 20 → A i = A j → i = j) (h : WM c1 c8 c10 c12 B2 (cR c11 7 B) A X R D H Q L K) : ∃ rx rm, F_136 c7 c8 c10 c11 B = some rx ∧ F_240 c12 B2 = some rm ∧ rx.1 = rm.1 ∧ OP c1 c7 c8 c10 c12 B2 (cR c11 12 B) (cR c11 7 B) A X R D H Q L K rx.2.1 rx.2.2.1 rx.2.2.2 rm.2 := by
  obtain ⟨U, hU, hw⟩ := id h
  obtain ⟨o, -, -, b2, b3, -⟩ := hw.2.2.2.2.1
  rcases U with _ | U
  · refine ⟨_, (-1, c12), in_pos b2 rfl, ?_, rfl, op_rf h⟩
    unfold F_240
    exact in_pos hU rfl
  obtain ⟨r, r1, r2, r3, r4⟩ := tb_ok inj hw
  have hv : cI r.2 3 (cR c11 7 B) = nI U := by
    obtain ⟨o, -, -, b2, b3, -⟩ := r2.2.2.2.2.1
    exact b2
  refine ⟨(nI U, sI c7 1 (cR c11 12 B) 0, r.1, r.2), _, in_neg (by rw [b2]; exact nI_ne0 (by omega) (by omega)) (ob_mk r1 (by rw [hv]; rfl)), f_240 hU (by omega), rfl, ⟨U, ?_, ?_⟩, fun a ha => ot_a r3 ha, r4, kp_tr (kp_I (by decide)) (kp_A (by decide)), Or.inr rfl⟩
  · dsimp only; rw [cI_sA, cI_same]
  · dsimp only
    rw [cA_same, cA_ne (by decide), cA_sI, cI_sA, cI_sI, if_neg (fun z => by omega)]
    exact r2
theorem q_seed {p1 : Int32} (h : WM c1 c8 c10 c12 B2 (cR c11 7 B) A X R D H Q L K) : ∃ rx rm, F_151 c10 c11 B p1 = some rx ∧ F_292 c12 B2 p1 = some rm ∧ rx.1 = rm.1 ∧ OP c1 c7 c8 c10 c12 B2 (cR c11 12 B) (cR c11 7 B) A X R D H Q L K c7 c8 rx.2 rm.2 := by
  obtain ⟨U, hU, a1, a2, a3, a4, ⟨o, o20, b1, b2, b3, b4⟩, a5, N, n12, t1, t2, t3⟩ := id h
  unfold F_151 F_292
  by_cases q : 0 ≤ p1
  · refine ⟨_, _, in_pos q rfl, in_pos q rfl, a5.1, ⟨U, ?_, ?_⟩, fun a _ => Sm8.rf _ _, oth_I, kp_I (by decide), Or.inl ⟨rfl, fun j _ _ => rfl⟩⟩
    · dsimp only; rw [cI_sI, if_neg (fun z => by omega)]; exact hU
    · dsimp only
      rw [cA_sI, cI_same]
      refine ⟨a1, a2, a3, a4, ⟨o, o20, ?_, ?_, b3, b4⟩, ⟨cI_same _ _ _ _, Int32.not_lt.mpr q⟩, N, n12, ?_, t2, t3⟩
      · rw [cI_sI, if_neg (fun z => by omega)]; exact b1
      · rw [cI_sI, if_neg (fun z => by omega)]; exact b2
      · rw [cI_sI, if_neg (fun z => by omega)]; exact t1
  · exact ⟨_, _, in_neg q rfl, in_neg q rfl, rfl, op_rf h⟩
theorem q_tell {p1 p2 p3 : Int32} (h : WM c1 c8 c10 c12 B2 (cR c11 7 B) A X R D H Q L K) : ∃ rx rm, F_139 c1 c7 c8 c10 c11 B p1 p2 p3 = some rx ∧ F_254 c12 B2 p1 p2 p3 = some rm ∧ rx.1 = rm.1 ∧ OP c1 c7 c8 c10 c12 B2 (cR c11 12 B) (cR c11 7 B) A X R D H Q L K rx.2.1 c8 rx.2.2 rm.2 := by
  obtain ⟨U, hU, hw⟩ := id h
  obtain ⟨a1, a2, a3, ⟨M, E, m9, s⟩, ⟨o, o20, b1, b2, b3, b4⟩, a5, N, n12, t1, t2, t3⟩ := id hw
  have s' := s
  rw [← a1] at s'
  have hN := s'.1.1
  have q6 := hN.2.2.2.1.2.2
  have e8 : F_170 p1.toInt64 0 8 = some (if p1 < 0 then 0 else if 8 < p1 then 0 else 1) := f_170 p1 0 8
  have e99 : F_170 p3.toInt64 0 99 = some (if p3 < 0 then 0 else if 99 < p3 then 0 else 1) := f_170 p3 0 99
  have su : ∀ {S' : Nat → Int32}, (∀ j, j < 184 → S' j = cA c12 20 B2 j) → ∃ M E, M ≤ 9999 ∧ SR c1 c8 (A 0) S' R D H Q M L E K := fun {S'} g => ⟨M, E, m9, SR_c (Sm8.rf _ _) (Sm1.rf _ _) g s⟩
  unfold F_139 F_254
  by_cases m : p1 = -1
  · refine ⟨_, _, in_pos m rfl, in_pos m (ob_mk (ast_ok (i := 220) (by decide) (by decide)) rfl), rfl, ⟨U, hU, ?_⟩, fun a _ => Sm8.rf _ _, oth_I, kp_A (by decide), Or.inr rfl⟩
    dsimp only
    rw [cA_same, cA_ne (by decide), cI_sA]
    refine ⟨a1, a2, a3, su (fun j q => pk_un (by omega)), ⟨o, o20, ?_, ?_, b3, b4⟩, ?_, 0, by decide, cI_same _ _ _ _, pk_us, fun i q => by omega⟩
    · rw [cI_sI, if_neg (fun z => by omega)]; exact b1
    · rw [cI_sI, if_neg (fun z => by omega)]; exact b2
    · rw [cI_sI, if_neg (fun z => by omega)]; exact a5
  rcases pk_ix p1 (n := 9) (by decide) with z | z | ⟨t, ht, rfl⟩
  · rw [in_lo z] at e8
    exact ⟨_, _, in_neg m (in_pos z rfl), in_neg m (ob_mk e8 (in_pos rfl rfl)), rfl, op_rf h⟩
  · have z2 := out_hi (n := 9) (m := 8) rfl (by decide) z
    rw [in_hi z2] at e8
    exact ⟨_, _, in_neg m (in_neg z2.1 (in_pos z2.2 rfl)), in_neg m (ob_mk e8 (in_pos rfl rfl)), rfl, op_rf h⟩
  rw [in_in (k := t) (n := 8) (m := 8) rfl (by omega) (by decide)] at e8
  have y1 : ¬ nI t < 0 := nI_pos (by omega)
  have y2 : ¬ (8 : Int32) < nI t := nI_nlt (a := 8) (b := t) (by omega) (by decide)
  rcases is1_of (n := Q) (p := p2) (by omega) with q | ⟨q, i, hi, rfl⟩
  · exact ⟨_, _, in_neg m (in_neg y1 (in_neg y2 (ob_mk (f_162 hN) (in_pos q rfl)))), in_neg m (ob_mk e8 (in_neg (by decide) (ob_mk (f_222 hN) (in_pos q rfl)))), rfl, op_rf h⟩
  have q0 : ¬ is1 Q (nI i) = 0 := by rw [q]; decide
  have e164 : F_164 p3 = some (if p3 < 0 then 0 else if 99 < p3 then 0 else 1) := by
    unfold F_164
    by_cases w : p3 < 0
    · rw [if_pos w, if_pos w]; rfl
    · rw [if_neg w, if_neg w]
      by_cases w2 : 99 < p3
      · rw [if_pos w2, if_pos w2]; rfl
      · rw [if_neg w2, if_neg w2]; rfl
  by_cases v : (if p3 < 0 then (0 : Int32) else if 99 < p3 then 0 else 1) = 0
  · exact ⟨_, _, in_neg m (in_neg y1 (in_neg y2 (ob_mk (f_162 hN) (in_neg q0 (ob_mk e164 (in_pos v rfl)))))), in_neg m (ob_mk e8 (in_neg (by decide) (ob_mk (f_222 hN) (in_neg q0 (ob_mk e99 (in_pos v rfl)))))), rfl, op_rf h⟩
  obtain ⟨u, hu, rfl⟩ : ∃ u, u ≤ 99 ∧ p3 = nI u := by
    rcases pk_ix p3 (n := 100) (by decide) with z | z | ⟨t, ht, rfl⟩
    · exact absurd (in_lo z) v
    · exact absurd (in_hi (out_hi (n := 100) (m := 99) rfl (by decide) z)) v
    · exact ⟨t, by omega, rfl⟩
  have al : ald (cA c12 20 B2) 221 220 = some (nI N) := (ald_ok (i := 220) (by decide) (by decide)).trans (by rw [t2])
  by_cases k : N = 12
  · refine ⟨_, _, in_neg m (in_neg y1 (in_neg y2 (ob_mk (f_162 hN) (in_neg q0 (ob_mk e164 (in_neg v (in_neg (by rw [t1, k]; decide) rfl))))))), in_neg m (ob_mk e8 (in_neg (by decide) (ob_mk (f_222 hN) (in_neg q0 (ob_mk e99 (in_neg v (ob_mk al (in_pos (by rw [k]; rfl) rfl)))))))), rfl, op_rf h⟩
  have k1 : ¬ nI N = (12 : Int32) := fun e => k ((nI_eq (a := N) (b := 12) (by omega) (by decide)).mp e)
  have i0 : (184 : Int32) + (3 * nI N) = nI (184 + 3 * N) := by
    rw [show (3 : Int32) * nI N = nI (3 * N) from pk_mul 3 N]; exact nI_add 184 (3 * N)
  have i1 : nI (184 + 3 * N) + (1 : Int32) = nI (184 + 3 * N + 1) := nI_add _ 1
  have i2 : nI (184 + 3 * N) + (2 : Int32) = nI (184 + 3 * N + 2) := nI_add _ 2
  obtain ⟨S, hS⟩ : ∃ S, S = upd (upd (upd (upd (cA c12 20 B2) (184 + 3 * N) (nI t)) (184 + 3 * N + 1) (nI i)) (184 + 3 * N + 2) (nI u)) 220 (nI (N + 1)) := ⟨_, rfl⟩
  have f121 : F_121 c10 (cR c11 7 B) (nI t) (nI i) (nI u) = some (sI (sA (sA (sA c10 6 (cR c11 7 B) (upd (cA c10 6 (cR c11 7 B)) N (nI t))) 7 (cR c11 7 B) (upd (cA c10 7 (cR c11 7 B)) N (nI i))) 8 (cR c11 7 B) (upd (cA c10 8 (cR c11 7 B)) N (nI u))) 5 (cR c11 7 B) (nI (N + 1))) := by
    unfold F_121
    refine ob_mk (in_neg (by rw [t1]; exact nI_ge (a := N) (b := 12) (by omega) (by decide)) ?_) rfl
    rw [t1]
    refine ob_mk (ast_ok (by omega) (by decide)) ?_
    rw [cI_sA, t1]
    refine ob_mk (ast_ok (by omega) (by decide)) ?_
    rw [cI_sA, cI_sA, t1]
    refine ob_mk (ast_ok (by omega) (by decide)) ?_
    rw [cI_sA, cI_sA, cI_sA, t1, nI_1, cA_ne (show 7 ≠ 6 by decide), cA_ne (show 8 ≠ 7 by decide), cA_ne (show 8 ≠ 6 by decide)]
    rfl
  refine ⟨(nI (N + 1), sI c7 1 (cR c11 12 B) 0, sI (sA (sA (sA c10 6 (cR c11 7 B) (upd (cA c10 6 (cR c11 7 B)) N (nI t))) 7 (cR c11 7 B) (upd (cA c10 7 (cR c11 7 B)) N (nI i))) 8 (cR c11 7 B) (upd (cA c10 8 (cR c11 7 B)) N (nI u))) 5 (cR c11 7 B) (nI (N + 1))), (nI (N + 1), sA c12 20 B2 S), in_neg m (in_neg y1 (in_neg y2 (ob_mk (f_162 hN) (in_neg q0 (ob_mk e164 (in_neg v (in_pos (by rw [t1]; exact nI_lt (a := N) (b := 12) (by omega) (by decide)) (ob_mk f121 (by rw [cI_same]; rfl))))))))), in_neg m (ob_mk e8 (in_neg (by decide) (ob_mk (f_222 hN) (in_neg q0 (ob_mk e99 (in_neg v (ob_mk al (in_neg k1 (ob_mk al ?_))))))))), rfl, ⟨U, hU, ?_⟩, fun a _ => Sm8.rf _ _, oth_tr oth_A (oth_tr oth_A (oth_tr oth_A oth_I)), kp_A (by decide), Or.inr rfl⟩
  · rw [i0, i1, i2]
    refine ob_mk (ast_ok (by omega) (by decide)) (ob_mk (ast_ok (by omega) (by decide)) ?_)
    rw [cA_same, sA_sA]
    refine ob_mk (ast_ok (by omega) (by decide)) ?_
    rw [cA_same, sA_sA]
    refine ob_mk (v := nI N) ((ald_ok (i := 220) (by decide) (by decide)).trans (by rw [cA_same, pk_un (by omega), pk_un (by omega), pk_un (by omega), t2])) ?_
    rw [nI_1]
    refine ob_mk (v := sA c12 20 B2 S) ((ast_ok (i := 220) (by decide) (by decide)).trans (by simp only [cA_same, sA_sA, hS])) (ob_mk (v := nI (N + 1)) ((ald_ok (i := 220) (by decide) (by decide)).trans (by rw [cA_same, hS, pk_us])) rfl)
  · dsimp only
    rw [cA_same, cA_ne (by decide), cI_sA]
    refine ⟨a1, a2, a3, su (fun j q => by rw [hS, pk_un (by omega), pk_un (by omega), pk_un (by omega), pk_un (by omega)]), ⟨o, o20, ?_, ?_, b3, b4⟩, ?_, N + 1, by omega, cI_same _ _ _ _, by rw [hS, pk_us], fun j q => ?_⟩
    · rw [cI_sI, if_neg (fun z => by omega)]; exact b1
    · rw [cI_sI, if_neg (fun z => by omega)]; exact b2
    · rw [cI_sI, if_neg (fun z => by omega)]; exact a5
    · simp only [cI_sI, cI_sJ, cI_sR, cI_sA, cI_sB, cI_sQ, cR_sI, cR_sJ, cR_sR, cR_sA, cR_sB, cR_sQ, cA_sI, cA_sJ, cA_sR, cA_sA, cA_sB, cA_sQ, Nat.reduceEqDiff, false_and, and_false, and_true, true_and, if_false, if_true, and_self, ↓reduceIte]
      by_cases w : j = N
      · subst w
        have s0 : S (184 + 3 * j) = nI t := by rw [hS, pk_un (by omega), pk_un (by omega), pk_un (by omega), pk_us]
        have s1 : S (184 + 3 * j + 1) = nI i := by rw [hS, pk_un (by omega), pk_un (by omega), pk_us]
        have s2 : S (184 + 3 * j + 2) = nI u := by rw [hS, pk_un (by omega), pk_us]
        rw [s0, s1, s2, pk_us, pk_us, pk_us]
        exact ⟨rfl, rfl, rfl, ⟨t, by omega, rfl⟩, ⟨i, hi, rfl⟩, u, hu, rfl⟩
      · have s0 : S (184 + 3 * j) = cA c12 20 B2 (184 + 3 * j) := by rw [hS, pk_un (by omega), pk_un (by omega), pk_un (by omega), pk_un (by omega)]
        have s1 : S (184 + 3 * j + 1) = cA c12 20 B2 (184 + 3 * j + 1) := by rw [hS, pk_un (by omega), pk_un (by omega), pk_un (by omega), pk_un (by omega)]
        have s2 : S (184 + 3 * j + 2) = cA c12 20 B2 (184 + 3 * j + 2) := by rw [hS, pk_un (by omega), pk_un (by omega), pk_un (by omega), pk_un (by omega)]
        rw [s0, s1, s2, pk_un w, pk_un w, pk_un w]
        exact t3 j (by omega)
end Ops2
