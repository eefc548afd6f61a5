/-! ===== secret: the calls ===== -/
section Secret4
variable {c0 c1 c6 c8 c10 c11 c12 c13 : Cl} {d : Ad} {sc st cr B B2 : Nat} {S : Nat → Int32} {A : Nat → Nat} {X R D H Q M L E : Nat} {K : Nat → Nat}
theorem f_1 {mo aim : Nat} (hS : SR c1 c8 st S R D H Q M L E K) (e0 : cR c0 0 cr = sc) (hm : mo < H) (hml : ¬ lv S mo = 0) : Rn (F_1 c0 c1 c6 c8 cr st (nI mo) (nI aim)) (fun r => Kp [1, 2, 4, 5, 8, 9] c0 r.1 ∧ Oth cr c0 r.1 ∧ cI r.1 4 cr = nI (lc S mo) ∧ cI r.1 5 cr = nI aim ∧ cJ r.1 9 cr = lN (se S H Q (q0 S)) ∧ cI r.1 8 cr = 0 ∧ cI r.1 1 cr = -2 ∧ cI r.1 2 cr = -2 ∧ Kp [0, 1, 2, 3, 4, 5, 6, 7, 8, 9, 10, 11] c6 r.2 ∧ Oth sc c6 r.2 ∧ SC r.2 sc S R D H Q ∧ AT r.2 sc S R H (q0 S) ∧ cI r.2 3 sc = nI (kc S R H (q0 S))) := by
  have h6 := hS.1.1.2.2.1.2.2
  unfold F_1
  rw [e0]
  refine rn_b (take_ok (c6 := c6) (sc := sc) hS) (fun c6a ⟨t1, t2, t3, t4, t5⟩ => rn_e (f_61 h6 hm hml t3) (rn_s (rn_s ?_)))
  rw [show cR (sI (sI c0 4 cr (nI (lc S mo))) 5 cr (nI aim)) 0 cr = sc from e0]
  refine rn_e (f_58 hS t3 t4 (q0_ok hS)) (rn_s (rn_s (rn_s (rn_s (rn_r ⟨?_, ?_, ?_, ?_, ?_, ?_, ?_, ?_, t1, t2, t3, t4, t5⟩)))))
  · exact kp_tr (kp_I (by decide)) (kp_tr (kp_I (by decide)) (kp_tr (kp_J (by decide)) (kp_tr (kp_I (by decide)) (kp_tr (kp_I (by decide)) (kp_I (by decide))))))
  · exact oth_tr oth_I (oth_tr oth_I (oth_tr oth_J (oth_tr oth_I (oth_tr oth_I oth_I))))
  · simp only [cI_sI, cI_sJ, cI_sR, cI_sA, cI_sB, cI_sQ, cR_sI, cR_sJ, cR_sR, cR_sA, cR_sB, cR_sQ, cA_sI, cA_sJ, cA_sR, cA_sA, cA_sB, cA_sQ, Nat.reduceEqDiff, false_and, and_false, and_true, true_and, if_false, if_true, and_self, ↓reduceIte]
  · simp only [cI_sI, cI_sJ, cI_sR, cI_sA, cI_sB, cI_sQ, cR_sI, cR_sJ, cR_sR, cR_sA, cR_sB, cR_sQ, cA_sI, cA_sJ, cA_sR, cA_sA, cA_sB, cA_sQ, Nat.reduceEqDiff, false_and, and_false, and_true, true_and, if_false, if_true, and_self, ↓reduceIte]
  · rw [cJ_sI, cJ_sI, cJ_sI, cJ_sJ, if_pos ⟨rfl, rfl⟩]
  · simp only [cI_sI, cI_sJ, cI_sR, cI_sA, cI_sB, cI_sQ, cR_sI, cR_sJ, cR_sR, cR_sA, cR_sB, cR_sQ, cA_sI, cA_sJ, cA_sR, cA_sA, cA_sB, cA_sQ, Nat.reduceEqDiff, false_and, and_false, and_true, true_and, if_false, if_true, and_self, ↓reduceIte]
  · simp only [cI_sI, cI_sJ, cI_sR, cI_sA, cI_sB, cI_sQ, cR_sI, cR_sJ, cR_sR, cR_sA, cR_sB, cR_sQ, cA_sI, cA_sJ, cA_sR, cA_sA, cA_sB, cA_sQ, Nat.reduceEqDiff, false_and, and_false, and_true, true_and, if_false, if_true, and_self, ↓reduceIte]
  · simp only [cI_sI, cI_sJ, cI_sR, cI_sA, cI_sB, cI_sQ, cR_sI, cR_sJ, cR_sR, cR_sA, cR_sB, cR_sQ, cA_sI, cA_sJ, cA_sR, cA_sA, cA_sB, cA_sQ, Nat.reduceEqDiff, false_and, and_false, and_true, true_and, if_false, if_true, and_self, ↓reduceIte]
theorem ct_at (hS : SR c1 c8 st S R D H Q M L E K) {q : Nat → Nat} (hq : Qok S R H q) (hA : AT c6 sc S R H q) : CtA c6 c6 sc S R H q := ⟨kp_rf _ _, oth_rf _ _, fun y hy => by rw [hA.2 y hy, la_nI hS hq hy]⟩
theorem gn_0 {a : Nat → Nat} : gn S H a a = 0 := sn_z fun h _ => by
  by_cases w : lv S h = 0
  · rw [if_pos w]
  · rw [if_neg w, if_pos rfl]
/-- the class seeks a secret -/
theorem f_2 {mo aim : Nat} (hS : SR c1 c8 st S R D H Q M L E K) (hR0 : 0 < R) (e0 : cR c0 0 cr = sc) (hm : mo < H) (hml : ¬ lv S mo = 0) (ham : aim < R) : Rn (F_2 c0 c1 c6 c8 c13 d cr st (nI mo) (nI aim)) (fun r => ∃ c0z, Kp [1, 2, 3, 4, 5, 6, 7, 8, 9] c0 c0z ∧ Oth cr c0 c0z ∧ relS c0z c13 cr sc S H Q mo aim 0 (q0 S) (fo S R D H (q0 S) false mo aim (fun _ => false) (lfS S R H Q (q0 S)) none (R ^ lc S H)) r.1 r.2.2 ∧ Kp [0, 1, 2, 3, 4, 5, 6, 7, 8, 9, 10, 11] c6 r.2.1 ∧ Oth sc c6 r.2.1 ∧ SC r.2.1 sc S R D H Q) := by
  have h6 := hS.1.1.2.2.1.2.2
  have ll := lc_le S H
  unfold F_2
  refine rn_b (f_1 (c0 := c0) (c6 := c6) (aim := aim) hS e0 hm hml) (fun r1 ⟨k1, o1, f4, f5, f9, f8, f1, f2, k6, o6, hC, hA, e3⟩ => rn_s (rn_s (rn_s ?_)))
  have z0 : cR r1.1 0 cr = sc := by rw [(k1 0 (by decide)).2.2.1]; exact e0
  obtain ⟨c0z, hz⟩ : ∃ c0z, c0z = sI (sI (sI r1.1 7 cr 0) 6 cr (nI (lc S H))) 3 cr (nI (kc S R H (q0 S))) := ⟨_, rfl⟩
  have e6 : cI r1.2 1 (cR (sI r1.1 7 cr 0) 0 cr) = nI (lc S H) := by rw [show cR (sI r1.1 7 cr 0) 0 cr = sc from z0]; exact hC.2.1
  rw [e6]
  have e3' : cI r1.2 3 (cR (sI (sI r1.1 7 cr 0) 6 cr (nI (lc S H))) 0 cr) = nI (kc S R H (q0 S)) := by rw [show cR (sI (sI r1.1 7 cr 0) 6 cr (nI (lc S H))) 0 cr = sc from z0]; exact e3
  rw [e3', ← hz]
  have zz : cR c0z 0 cr = sc := by rw [hz]; exact z0
  have k0 : Kp [1, 2, 3, 4, 5, 6, 7, 8, 9] c0 c0z := by rw [hz]; exact kp_tr (kp_wd k1 (by decide)) (kp_tr (kp_I (by decide)) (kp_tr (kp_I (by decide)) (kp_I (by decide))))
  have o0 : Oth cr c0 c0z := by rw [hz]; exact oth_tr o1 (oth_tr oth_I (oth_tr oth_I oth_I))
  have j9 : cJ c0z 9 cr = lN (se S H Q (q0 S)) := by rw [hz, cJ_sI, cJ_sI, cJ_sI]; exact f9
  rw [zz, e3, j9]
  have r0 : relS c0z c13 cr sc S H Q mo aim 0 (q0 S) none c0z c13 := by
    refine ⟨rfl, kp_rf _ _, oth_rf _ _, ⟨zz, ?_, ?_, ?_, ?_, j9⟩, ?_, ?_⟩
    · rw [hz]; simp only [cI_sI, cI_sJ, cI_sR, cI_sA, cI_sB, cI_sQ, cR_sI, cR_sJ, cR_sR, cR_sA, cR_sB, cR_sQ, cA_sI, cA_sJ, cA_sR, cA_sA, cA_sB, cA_sQ, Nat.reduceEqDiff, false_and, and_false, and_true, true_and, if_false, if_true, and_self, ↓reduceIte]; exact f8
    · rw [hz]; simp only [cI_sI, cI_sJ, cI_sR, cI_sA, cI_sB, cI_sQ, cR_sI, cR_sJ, cR_sR, cR_sA, cR_sB, cR_sQ, cA_sI, cA_sJ, cA_sR, cA_sA, cA_sB, cA_sQ, Nat.reduceEqDiff, false_and, and_false, and_true, true_and, if_false, if_true, and_self, ↓reduceIte]
    · rw [hz]; simp only [cI_sI, cI_sJ, cI_sR, cI_sA, cI_sB, cI_sQ, cR_sI, cR_sJ, cR_sR, cR_sA, cR_sB, cR_sQ, cA_sI, cA_sJ, cA_sR, cA_sA, cA_sB, cA_sQ, Nat.reduceEqDiff, false_and, and_false, and_true, true_and, if_false, if_true, and_self, ↓reduceIte]; exact f4
    · rw [hz]; simp only [cI_sI, cI_sJ, cI_sR, cI_sA, cI_sB, cI_sQ, cR_sI, cR_sJ, cR_sR, cR_sA, cR_sB, cR_sQ, cA_sI, cA_sJ, cA_sR, cA_sA, cA_sB, cA_sQ, Nat.reduceEqDiff, false_and, and_false, and_true, true_and, if_false, if_true, and_self, ↓reduceIte]; exact f5
    · rw [hz]; simp only [cI_sI, cI_sJ, cI_sR, cI_sA, cI_sB, cI_sQ, cR_sI, cR_sJ, cR_sR, cR_sA, cR_sB, cR_sQ, cA_sI, cA_sJ, cA_sR, cA_sA, cA_sB, cA_sQ, Nat.reduceEqDiff, false_and, and_false, and_true, true_and, if_false, if_true, and_self, ↓reduceIte]; rfl
    · show cI c0z 1 cr = -2
      rw [hz]; simp only [cI_sI, cI_sJ, cI_sR, cI_sA, cI_sB, cI_sQ, cR_sI, cR_sJ, cR_sR, cR_sA, cR_sB, cR_sQ, cA_sI, cA_sJ, cA_sR, cA_sA, cA_sB, cA_sQ, Nat.reduceEqDiff, false_and, and_false, and_true, true_and, if_false, if_true, and_self, ↓reduceIte]; exact f1
  have hF : CrF cr sc S false mo aim (fun _ => false) (mgS (lc S H)) (relS c0z c13 cr sc S H Q mo aim 0 (q0 S)) := fun x c0' c13' h => by
    obtain ⟨-, -, -, ⟨g0, g8, g7, g4, g5, -⟩, g6, gx⟩ := h
    refine ⟨g0, g8, g7, g4, g5, g6, ?_⟩
    cases x with
    | none => show lc S H ≤ 6; omega
    | some y => show y.1 - 1 ≤ 6; have := gx.2.1; omega
  have g := cross_ok (d := d) (a := q0 S) (th := false) (mo := mo) (aim := aim) (en := fun _ => false) (lf := lfS S R H Q (q0 S)) (mg := mgS (lc S H)) (rel := relS c0z c13 cr sc S H Q mo aim 0 (q0 S)) (c6z := r1.2) hS hR0 hC (q0_ok hS) hA.1 hF (fun q x h => lfS_no h) hm hml ham (fun q x c0' c6' c13' _ g1 g2 g3 => leafS hS hC g1 g2) (lc S H) 0 40 (q0 S) none c0z r1.2 c13 (by omega) (by omega) rfl r0 (ct_at hS (q0_ok hS) hA) (q0_ok hS) (fun h _ _ _ => rfl)
  rw [gn_0] at g
  have bf := blk_fo (S := S) (R := R) (D := D) (H := H) (a := q0 S) (th := false) (mo := mo) (aim := aim) (en := fun _ => false) (lf := lfS S R H Q (q0 S)) (x0 := none) hR0 (fun q q' x h => lfS_cg h) (lc S H) 0 (q0 S) (by omega) (q0_ok hS) (fun j hj => absurd hj (Nat.not_lt_zero _)) rfl
  have ez : cd R (fun i => q0 S (nbf S H i)) 0 * R ^ lc S H = 0 := Nat.zero_mul _
  rw [ez, Nat.zero_add] at bf
  have bf' : blk S R D H (q0 S) false mo aim (fun _ => false) (lfS S R H Q (q0 S)) (lc S H) (q0 S) none = fo S R D H (q0 S) false mo aim (fun _ => false) (lfS S R H Q (q0 S)) none (R ^ lc S H) := bf
  rw [bf'] at g
  refine rn_b g (fun r ⟨g1, g2⟩ => rn_r ⟨c0z, k0, o0, g1, kp_tr k6 (kp_wd g2.1 (by decide)), oth_tr o6 g2.2.1, SC_k g2.1 (by decide) hC⟩)
theorem q_secret {p1 p2 p3 : Int32} (h : WM c1 c8 c10 c12 B2 (cR c11 7 B) A X R D H Q L K) (hP : Pw c12 B2) (ecr : cR c11 13 B = cr) (e0 : cR c0 0 cr = sc) : ∃ rx rm, F_146 c0 c1 c6 c8 c10 c11 c13 d B p1 p2 p3 = some rx ∧ F_278 c12 B2 p1 p2 p3 = some rm ∧ rx.1 = rm.1 ∧ Kp [1, 2, 3, 4, 5, 6, 7, 8, 9] c0 rx.2.1 ∧ Oth cr c0 rx.2.1 ∧ Kp [0, 1, 2, 3, 4, 5, 6, 7, 8, 9, 10, 11] c6 rx.2.2.1 ∧ Oth sc c6 rx.2.2.1 ∧ rx.2.2.2 = c13 ∧ Kp [24, 32, 33] c12 rm.2 := by
  obtain ⟨U, hU, hw⟩ := id h
  obtain ⟨a1, a2, a3, ⟨M, E, m9, s⟩, -⟩ := id hw
  have s' := s
  rw [← a1] at s'
  have hN := s'.1.1
  obtain ⟨⟨-, -, r6⟩, -, ⟨-, -, h6⟩, -⟩ := id hN
  have f1 := f_159 (c11 := c11) (B := B) (p := p1) hN s'.1.2.1
  have e1 : F_170 p3.toInt64 0 6 = some (if p3 < 0 then 0 else if 6 < p3 then 0 else 1) := f_170 p3 0 6
  have no : ∀ {x : Option (Int32 × Cl × Cl × Cl)} {y : Option (Int32 × Cl)}, x = some (-1, c0, c6, c13) → y = some (-1, c12) → ∃ rx rm, x = some rx ∧ y = some rm ∧ rx.1 = rm.1 ∧ Kp [1, 2, 3, 4, 5, 6, 7, 8, 9] c0 rx.2.1 ∧ Oth cr c0 rx.2.1 ∧ Kp [0, 1, 2, 3, 4, 5, 6, 7, 8, 9, 10, 11] c6 rx.2.2.1 ∧ Oth sc c6 rx.2.2.1 ∧ rx.2.2.2 = c13 ∧ Kp [24, 32, 33] c12 rm.2 := fun hx hy => ⟨_, _, hx, hy, rfl, kp_rf _ _, oth_rf _ _, kp_rf _ _, oth_rf _ _, rfl, kp_rf _ _⟩
  unfold F_146 F_278
  rcases is1_of (n := H) (p := p1) (by omega) with q | ⟨q, mo, hm, rfl⟩
  · rw [if_pos q] at f1
    exact no (ob_mk f1 (in_pos rfl rfl)) (ob_mk (f_221 hN) (in_pos q rfl))
  have q0' : ¬ is1 H (nI mo) = 0 := by rw [q]; decide
  rw [if_neg q0', nI_clamp (by omega)] at f1
  by_cases v : lv (cA c12 20 B2) mo = 0
  · rw [if_pos v] at f1
    exact no (ob_mk f1 (in_pos rfl rfl)) (ob_mk (f_221 hN) (in_neg q0' (ob_mk (f_224 (by omega)) (in_pos v rfl))))
  rw [if_neg v] at f1
  rcases is1_of (n := R) (p := p2) (by omega) with z | ⟨z, aim, ham, rfl⟩
  · exact no (ob_mk f1 (in_neg (by decide) (ob_mk (f_160 hN) (in_pos z rfl)))) (ob_mk (f_221 hN) (in_neg q0' (ob_mk (f_224 (by omega)) (in_neg v (ob_mk (f_219 hN) (in_pos z rfl))))))
  have z0 : ¬ is1 R (nI aim) = 0 := by rw [z]; decide
  have hR0 : 0 < R := Nat.lt_of_le_of_lt (Nat.zero_le _) ham
  obtain ⟨S, eS⟩ : ∃ S, S = cA c12 20 B2 := ⟨_, rfl⟩
  rw [← eS] at s s' v
  have v' : ¬ lv (cA c12 20 B2) mo = 0 := by rw [← eS]; exact v
  have ql := q0_lt s hm v
  have v7 : ald (cA c8 4 (cR c10 0 (cR c11 7 B))) 6 (nI mo) = some (nI (q0 S mo)) := (ald_ok (by omega) (by decide)).trans (by rw [(s'.1.2.1 mo hm).1, q0_nI s hm v])
  have r7 : F_223 c12 B2 (nI mo) 0 = some (nI (q0 S mo)) := (f_223 (w := 0) (by omega) (by decide)).trans (by rw [← eS, q0_nI s hm v])
  by_cases y : aim = q0 S mo
  · exact no (ob_mk f1 (in_neg (by decide) (ob_mk (f_160 hN) (in_neg z0 (ob_mk v7 (in_pos (by rw [y]) rfl)))))) (ob_mk (f_221 hN) (in_neg q0' (ob_mk (f_224 (by omega)) (in_neg v' (ob_mk (f_219 hN) (in_neg z0 (ob_mk r7 (in_pos (by rw [y]) rfl))))))))
  have y1 : ¬ nI aim = nI (q0 S mo) := fun e => y ((nI_eq (by omega) (by omega)).mp e)
  have y2 : ¬ nI (q0 S mo) = nI aim := fun e => y1 e.symm
  by_cases w1 : p3 < 0
  · rw [if_pos w1] at e1
    exact no (ob_mk f1 (in_neg (by decide) (ob_mk (f_160 hN) (in_neg z0 (ob_mk v7 (in_neg y1 (in_pos w1 rfl))))))) (ob_mk (f_221 hN) (in_neg q0' (ob_mk (f_224 (by omega)) (in_neg v' (ob_mk (f_219 hN) (in_neg z0 (ob_mk r7 (in_neg y2 (ob_mk e1 (in_pos rfl rfl))))))))))
  rw [if_neg w1] at e1
  by_cases w2 : 6 < p3
  · rw [if_pos w2] at e1
    exact no (ob_mk f1 (in_neg (by decide) (ob_mk (f_160 hN) (in_neg z0 (ob_mk v7 (in_neg y1 (in_neg w1 (in_neg (Int32.not_le.mpr w2) rfl)))))))) (ob_mk (f_221 hN) (in_neg q0' (ob_mk (f_224 (by omega)) (in_neg v' (ob_mk (f_219 hN) (in_neg z0 (ob_mk r7 (in_neg y2 (ob_mk e1 (in_pos rfl rfl))))))))))
  rw [if_neg w2] at e1
  obtain ⟨w, hw6, rfl⟩ := nI_of2 (M := 6) (n := 6) rfl w1 (Int32.not_lt.mp w2)
  obtain ⟨rx, x1, c0z, x2, x3, x4, x5, x6, x7⟩ := f_2 (c0 := c0) (c6 := c6) (c13 := c13) (d := d) (aim := aim) s' hR0 e0 hm v ham
  have f256 := f_256 (c12 := c12) (B2 := B2) (by rw [← eS]; exact s) hP
  have eph : cd 6 (qx (cA c12 20 B2) H (q0 (cA c12 20 B2))) 6 = ph S R H (kc S R H (q0 S)) := by rw [← eS, ph_kc hR0 (q0_ok s)]; rfl
  rw [eph] at f256
  obtain ⟨r12, b1, b2, b3, b4, b5⟩ := f_275 (cz := c12) (B2 := B2) (s := kc S R H (q0 S)) s hR0 eS.symm hP
  have qe : ∀ k, k < H → ¬ lv S k = 0 → qs S R H (kc S R H (q0 S)) k = q0 S k := fun k hk hl => qs_kc hR0 (q0_ok s) hk hl
  have qxe : ∀ k, qx S H (qs S R H (kc S R H (q0 S))) k = qx S H (q0 S) k := fun k => by
    unfold qx
    by_cases u : k < H
    · rw [if_pos u, if_pos u]
      by_cases t : lv S k = 0
      · rw [if_pos t, if_pos t]
      · rw [if_neg t, if_neg t]; exact qe k u t
    · rw [if_neg u, if_neg u]
  have lbe : ∀ x, lb S H (qs S R H (kc S R H (q0 S))) x = lb S H (q0 S) x := fun x => sn_cg fun k hk => by
    by_cases t : lv S k = 0
    · rw [if_pos t, if_pos t]
    · rw [if_neg t, if_neg t, qe k hk t]
  obtain ⟨rm, m1, m2, m3⟩ := gl_278 (D := D) (a := q0 S) (cz := r12) (B2 := B2) (mo := mo) (aim := aim) (w := w) s hR0 (by rw [(b2 20 (by decide)).2.2.2.1]; exact eS.symm) (pw_k b2 (by decide) hP) (q0_ok s) hm v ham y hw6 (fun h hh => by rw [b3 h hh, qxe]) (fun x hx => by rw [b5 x hx, lbe]) 46656 0 r12 0 rfl (Nat.zero_le _) (fun t ht => ⟨fun e => absurd e (Nat.not_lt_zero _), fun e => absurd e (Nat.not_lt_zero _)⟩) (kp_rf _ _)
  have fk := foS_ok (S := S) (D := D) (Q := Q) (a := q0 S) (mo := mo) (aim := aim) hR0 h6 (R ^ lc S H) (Nat.le_refl _)
  obtain ⟨x, ex⟩ : ∃ x, x = fo S R D H (q0 S) false mo aim (fun _ => false) (lfS S R H Q (q0 S)) none (R ^ lc S H) := ⟨_, rfl⟩
  rw [← ex] at fk m2 x4
  obtain ⟨g13, gk, go, ⟨g0, -⟩, g6, gx⟩ := id x4
  have hx : (F_278 c12 B2 (nI mo) (nI aim) (nI w)) = some rm := by
    unfold F_278
    exact ob_mk (f_221 hN) (in_neg q0' (ob_mk (f_224 (by omega)) (in_neg v' (ob_mk (f_219 hN) (in_neg z0 (ob_mk r7 (in_neg y2 (ob_mk e1 (in_neg (by decide) (ob_mk f256 (ob_mk b1 m1)))))))))))
  unfold F_278 at hx
  have kk0 : Kp [1, 2, 3, 4, 5, 6, 7, 8, 9] c0 rx.1 := kp_tr x2 (kp_wd gk (by decide))
  have oo0 : Oth cr c0 rx.1 := oth_tr x3 go
  have kk12 : Kp [24, 32, 33] c12 rm.2 := kp_tr b2 (kp_wd m3 (by decide))
  have head : ∀ {u : Int32 × Cl × Cl × Cl}, ((if (cI rx.1 1 cr) = (-2) then some ((-2), rx.1, rx.2.1, rx.2.2) else ((if nI w = 0 then some (cI rx.1 1 cr, rx.2.1) else F_3 rx.1 rx.2.1 cr (nI w - 1) >>= fun r17 => some (r17.1, r17.2)) : Option (Int32 × Cl)) >>= fun (t14 : Int32 × Cl) => some (t14.1, rx.1, t14.2, rx.2.2)) : Option (Int32 × Cl × Cl × Cl)) = some u → F_146 c0 c1 c6 c8 c10 c11 c13 d B (nI mo) (nI aim) (nI w) = some u := fun {u} e => by
    unfold F_146
    rw [ecr]
    exact ob_mk f1 (in_neg (by decide) (ob_mk (f_160 hN) (in_neg z0 (ob_mk v7 (in_neg y1 (in_neg w1 (in_pos (Int32.not_lt.mp w2) (ob_mk x1 e))))))))
  have fin : ∀ {u : Int32 × Cl × Cl × Cl}, F_146 c0 c1 c6 c8 c10 c11 c13 d B (nI mo) (nI aim) (nI w) = some u → u.1 = ansS S R H x w → u.2.1 = rx.1 → Kp [0, 1, 2, 3, 4, 5, 6, 7, 8, 9, 10, 11] c6 u.2.2.1 → Oth sc c6 u.2.2.1 → u.2.2.2 = c13 → ∃ rx rm, F_146 c0 c1 c6 c8 c10 c11 c13 d B (nI mo) (nI aim) (nI w) = some rx ∧ F_278 c12 B2 (nI mo) (nI aim) (nI w) = some rm ∧ rx.1 = rm.1 ∧ Kp [1, 2, 3, 4, 5, 6, 7, 8, 9] c0 rx.2.1 ∧ Oth cr c0 rx.2.1 ∧ Kp [0, 1, 2, 3, 4, 5, 6, 7, 8, 9, 10, 11] c6 rx.2.2.1 ∧ Oth sc c6 rx.2.2.1 ∧ rx.2.2.2 = c13 ∧ Kp [24, 32, 33] c12 rm.2 := fun {u} h1 h2 h3 h4 h5 h7 => ⟨u, rm, h1, hx, by rw [h2, m2], by rw [h3]; exact kk0, by rw [h3]; exact oo0, h4, h5, h7, kk12⟩
  cases x with
  | none =>
    have gx' : cI rx.1 1 cr = -2 := gx
    exact fin (head (in_pos gx' rfl)) rfl rfl x5 x6 g13
  | some t =>
    obtain ⟨t1, t2, t3, t4⟩ := gx
    obtain ⟨-, -, t5⟩ := fk t rfl
    have n2 : ¬ cI rx.1 1 cr = -2 := fun e => by
      have p : ¬ nI t.1 < 0 := nI_pos (by omega)
      rw [← t3, e] at p
      exact p (by decide)
    by_cases u0 : w = 0
    · subst u0
      exact fin (head (in_neg n2 (ob_mk (in_pos rfl rfl) rfl))) (by show cI rx.1 1 cr = _; rw [t3]; rfl) rfl x5 x6 g13
    · have uf := unf_ok (c6 := rx.2.1) (sc := sc) (q := qs S R H t.2) r6 h6 (qs_ok hR0 t.2) x7
      have ee : cd R (fun j => qs S R H t.2 (nbf S H j)) (lc S H) = t.2 := kc_qs hR0 t5
      rw [ee] at uf
      obtain ⟨c6b, u1, u2, u3, u4⟩ := uf
      have g3 := gl_3 (c0 := rx.1) (c6 := c6b) (cr := cr) (w := w - 1) s' (SC_k u2 (by decide) x7) u4 g0 (by omega) (lc S H) 0 (by omega) (fun j hj => absurd hj (Nat.not_lt_zero _))
      have f3 : F_3 rx.1 rx.2.1 cr (nI w - 1) = some (if w - 1 < H then (if lv S (w - 1) = 0 then -1 else nI (qs S R H t.2 (w - 1))) else -1, c6b) := by
        unfold F_3
        rw [g0, t4, nI_m1 (by omega)]
        exact ob_mk u1 g3
      refine fin (head (in_neg n2 (ob_mk (in_neg (nI_ne0 (by omega) (by omega)) (ob_mk f3 rfl)) rfl))) (if_neg u0).symm rfl (kp_tr x5 (kp_wd u2 (by decide))) (oth_tr x6 u3) g13
end Secret4
