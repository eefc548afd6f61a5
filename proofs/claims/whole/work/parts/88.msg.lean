/-! ===== messages: where one can be behind a minute, by the class and by the reference ===== -/
/-- the others' halves in a room -/
def hot (S : Nat → Int32) (H h r : Nat) : Int32 := la S H (q0 S) (nI r) - (if r = q0 S h then S (40 + 6 * h + 1) else 0)
/-- from a room to another by one going -/
def lk (S : Nat → Int32) (H D h x y : Nat) : Bool := decide (¬ bit1 (bs S (nI x) D) (nI y) = 0) && decide (¬ S (82 + y) < hot S H h y + S (40 + 6 * h + 1))
def rt (S : Nat → Int32) (H D h x y : Nat) : Bool := decide (y = x) || lk S H D h x y
def al (S : Nat → Int32) (Q x y : Nat) : Bool := decide (sm S x Q = sm S y Q)
/-- rooms in which one can be behind a minute, from a set -/
def wi (S : Nat → Int32) (R H D h s y : Nat) : Bool := anyb (fun x => s.testBit x && rt S H D h x y) R
/-- whether a set is one that counts leave -/
def kb (S : Nat → Int32) (R H D Q h s t : Nat) : Bool := decide (¬ t = 0) && anyb (fun x => decide (mk (fun y => wi S R H D h s y && al S Q x y) R = t)) R
section Msg
variable {c1 c6 c8 c9 c10 c11 c12 c13 : Cl} {d : Ad} {sc st B B2 w : Nat} {S : Nat → Int32} {A : Nat → Nat} {X R D H Q M L E h : Nat} {K : Nat → Nat}
/-- what the class lists of rooms -/
def LRo (c9 : Cl) (w : Nat) (S : Nat → Int32) (R H D Q h x : Nat) : Prop := ∀ z, z < x → cA c9 7 w z = nI (mk (rt S H D h z) R) ∧ cA c9 8 w z = nI (mk (al S Q z) R)
/-- the scene without one -/
def Wo (c6 : Cl) (sc : Nat) (S : Nat → Int32) (R H h : Nat) : Prop := ∀ r, r < R → cA c6 11 sc r = hot S H h r
theorem gl_114b {i x : Nat} {P : Cl × Cl → Prop} (r6 : R ≤ 6) (q6 : Q ≤ 6) (h6 : H ≤ 6) (hi : i < lc S H) (ni : nbf S H i = h) (hC : SC c6 sc S R D H Q) (hW : Wo c6 sc S R H h) (hsc : cR c9 0 w = sc) (hx : x < R) (k : ∀ c', Kp [7, 8] c9 c' → Oth w c9 c' → LRo c' w S R H D Q h (x + 1) → Rn (G_114 c6 w 0 [nI i, nI (x + 1)] [] [] c') P) : ∀ (m y : Nat) (c' : Cl), y + m = R → Kp [7, 8] c9 c' → Oth w c9 c' → LRo c' w S R H D Q h x → cA c' 7 w x = nI (mk (fun j => decide (j = x) || (decide (j < y) && lk S H D h x j)) R) → cA c' 8 w x = nI (mk (fun j => decide (j < y) && al S Q x j) R) → Rn (G_114 c6 w 1 [nI i, nI x, nI y] [] [] c') P
  | 0, y, c', hy, kK, kO, h1, h2, h3 => by
    have : y = R := by omega
    subst this
    have e0 : cR c' 0 w = sc := by rw [(kK 0 (by decide)).2.2.1]; exact hsc
    rw [G_114, e0, hC.1]
    refine rn_p (nI_le (Nat.le_refl _) (by omega)) ?_
    rw [nI_1]
    refine k c' kK kO (fun z hz => ?_)
    by_cases u : z = x
    · subst u
      rw [h2, h3]
      exact ⟨by congr 1; exact mk_cg fun j hj => (by show _ = (decide (j = z) || lk S H D h z j); simp [hj]), by congr 1; exact mk_cg fun j hj => by simp [hj]⟩
    · exact h1 z (by omega)
  | m + 1, y, c', hy, kK, kO, h1, h2, h3 => by
    have ll := lc_le S H
    have e0 : cR c' 0 w = sc := by rw [(kK 0 (by decide)).2.2.1]; exact hsc
    obtain ⟨-, -, -, s3, s4⟩ := id hC
    rw [G_114, e0, hC.1]
    refine rn_n (nI_ge (by omega) (by omega)) (rn_e (f_59 (by omega) hx hC) ?_)
    refine rn_b (P := fun t => Kp [7, 8] c9 t ∧ Oth w c9 t ∧ LRo t w S R H D Q h x ∧ cA t 7 w x = nI (mk (fun j => decide (j = x) || (decide (j < y + 1) && lk S H D h x j)) R) ∧ cA t 8 w x = nI (mk (fun j => decide (j < y) && al S Q x j) R)) ?_ (fun t ⟨tK, tO, t1, t2, t3⟩ => ?_)
    · have same : lk S H D h x y = false → mk (fun j => decide (j = x) || (decide (j < y + 1) && lk S H D h x j)) R = mk (fun j => decide (j = x) || (decide (j < y) && lk S H D h x j)) R := fun e => mk_cg fun j hj => by
        by_cases u : j = y
        · subst u; simp [e]
        · have : (j < y + 1) = (j < y) := by simp; omega
          simp [this]
      by_cases b : bit1 (bs S (nI x) D) (nI y) = 0
      · refine rn_p b (rn_r ⟨kK, kO, h1, ?_, h3⟩)
        rw [h2, same (by unfold lk; simp [b])]
      · refine rn_n b (rn_ld (by omega) (by decide) (rn_ld (by omega) (by decide) (rn_ld (by omega) (by decide) ?_)))
        rw [(s3 i hi).2.1, ni, (s4 y (by omega)).1, hW y (by omega)]
        by_cases v : S (82 + y) < hot S H h y + S (40 + 6 * h + 1)
        · refine rn_p v (rn_r ⟨kK, kO, h1, ?_, h3⟩)
          rw [h2, same (by unfold lk; simp [v])]
        · refine rn_n v (rn_ld (by omega) (by decide) (rn_st (by omega) (by decide) (rn_r ⟨kp_tr kK (kp_A (by decide)), oth_tr kO oth_A, fun z hz => ?_, ?_, ?_⟩)))
          · rw [cA_same, pk_un (by omega), cA_ne (by decide)]; exact h1 z hz
          · rw [cA_same, pk_us, h2, mk_or1 (by omega) (by omega)]
            congr 1
            refine mk_cg fun j hj => ?_
            by_cases u : j = y
            · subst u
              have : lk S H D h x j = true := by unfold lk; simp [b, v]
              simp [this]
            · have : (j < y + 1) = (j < y) := by simp; omega
              simp [this, u]
          · rw [cA_ne (by decide)]; exact h3
    · have e1 : cR t 0 w = sc := by rw [(tK 0 (by decide)).2.2.1]; exact hsc
      have wl : ∀ x, wt S x Q < 2 ^ 63 := fun x => by
        have := wt_lt S x Q
        have l48 : (2 : Nat) ^ (8 * Q) ≤ 2 ^ 48 := Nat.pow_le_pow_right (by decide) (by omega)
        omega
      rw [e1]
      refine rn_ll (by omega) (by decide) (rn_ll (by omega) (by decide) ?_)
      rw [(s4 x hx).2.2, (s4 y (by omega)).2.2]
      refine rn_b (P := fun t' => Kp [7, 8] c9 t' ∧ Oth w c9 t' ∧ LRo t' w S R H D Q h x ∧ cA t' 7 w x = nI (mk (fun j => decide (j = x) || (decide (j < y + 1) && lk S H D h x j)) R) ∧ cA t' 8 w x = nI (mk (fun j => decide (j < y + 1) && al S Q x j) R)) ?_ (fun t' ⟨uK, uO, u1, u2, u3⟩ => by rw [nI_1]; exact gl_114b r6 q6 h6 hi ni hC hW hsc hx k m (y + 1) t' (by omega) uK uO u1 u2 u3)
      by_cases v : sm S x Q = sm S y Q
      · refine rn_p ((lg_cmp_eq _ _).mpr (by rw [(wt_sm S _ _ Q).mpr v])) (rn_ld (by omega) (by decide) (rn_st (by omega) (by decide) (rn_r ⟨kp_tr tK (kp_A (by decide)), oth_tr tO oth_A, fun z hz => ?_, ?_, ?_⟩)))
        · rw [cA_same, pk_un (by omega), cA_ne (by decide)]; exact t1 z hz
        · rw [cA_ne (by decide)]; exact t2
        · rw [cA_same, pk_us, t3, mk_or1 (by omega) (by omega)]
          congr 1
          refine mk_cg fun j hj => ?_
          by_cases u : j = y
          · subst u
            have : al S Q x j = true := by unfold al; simp [v]
            simp [this]
          · have : (j < y + 1) = (j < y) := by simp; omega
            simp [this, u]
      · refine rn_n (fun z => v ((wt_sm S _ _ Q).mp ((pk_lEQ (wl _) (wl _)).mp ((lg_cmp_eq _ _).mp z)))) (rn_r ⟨tK, tO, t1, t2, ?_⟩)
        rw [t3]
        congr 1
        refine mk_cg fun j hj => ?_
        by_cases u : j = y
        · subst u
          have : al S Q x j = false := by unfold al; simp [v]
          simp [this]
        · have : (j < y + 1) = (j < y) := by simp; omega
          simp [this]
theorem gl_114a {i : Nat} (r6 : R ≤ 6) (q6 : Q ≤ 6) (h6 : H ≤ 6) (hi : i < lc S H) (ni : nbf S H i = h) (hC : SC c6 sc S R D H Q) (hW : Wo c6 sc S R H h) (hsc : cR c9 0 w = sc) : ∀ (m x : Nat) (c' : Cl), x + m = R → Kp [7, 8] c9 c' → Oth w c9 c' → LRo c' w S R H D Q h x → Rn (G_114 c6 w 0 [nI i, nI x] [] [] c') (fun r => r.1 = c6 ∧ Kp [7, 8] c9 r.2 ∧ Oth w c9 r.2 ∧ LRo r.2 w S R H D Q h R)
  | 0, x, c', hx, kK, kO, h1 => by
    have : x = R := by omega
    subst this
    have e0 : cR c' 0 w = sc := by rw [(kK 0 (by decide)).2.2.1]; exact hsc
    rw [G_114, e0, hC.1]
    exact rn_p (nI_le (Nat.le_refl _) (by omega)) (rn_r ⟨rfl, kK, kO, h1⟩)
  | m + 1, x, c', hx, kK, kO, h1 => by
    have e0 : cR c' 0 w = sc := by rw [(kK 0 (by decide)).2.2.1]; exact hsc
    rw [G_114, e0, hC.1]
    refine rn_n (nI_ge (by omega) (by omega)) (rn_st (by omega) (by decide) (rn_st (by omega) (by decide) ?_))
    refine gl_114b (c9 := c9) (x := x) r6 q6 h6 hi ni hC hW hsc (by omega) (fun c'' k1 k2 k3 => gl_114a r6 q6 h6 hi ni hC hW hsc m (x + 1) c'' (by omega) k1 k2 k3) R 0 _ (by omega) (kp_tr kK (kp_tr (kp_A (by decide)) (kp_A (by decide)))) (oth_tr kO (oth_tr oth_A oth_A)) (fun z hz => ?_) ?_ ?_
    · rw [cA_ne (by decide), cA_same, pk_un (by omega), cA_same, pk_un (by omega), cA_ne (by decide)]; exact h1 z hz
    · rw [cA_ne (by decide), cA_same, pk_us, mk_sh (n := R) (by omega) (by omega)]
      congr 1
      exact mk_cg fun j hj => by simp
    · rw [cA_same, pk_us, mk_z (fun j hj => by simp)]; rfl
theorem q0_nI (hS : SR c1 c8 st S R D H Q M L E K) {h : Nat} (hh : h < H) (hl : ¬ lv S h = 0) : S (40 + 6 * h + 0) = nI (q0 S h) := by
  have r6 := hS.1.1.1.2.2
  obtain ⟨⟨x, hx, ex⟩, -⟩ := hS.1.2.2.2.2.2.2.2.1.2.1 h hh
  unfold q0; rw [if_neg hl, ex, nI_clamp (by omega)]
theorem f_114 (hS : SR c1 c8 st S R D H Q M L E K) (hh : h < H) (hl : ¬ lv S h = 0) (hC : SC c6 sc S R D H Q) (hA : AT c6 sc S R H (q0 S)) (hsc : cR c9 0 w = sc) : Rn (F_114 c6 c9 w (nI (lc S h))) (fun r => Kp [11] c6 r.1 ∧ Oth sc c6 r.1 ∧ Kp [7, 8] c9 r.2 ∧ Oth w c9 r.2 ∧ LRo r.2 w S R H D Q h R) := by
  obtain ⟨⟨-, -, r6⟩, -, ⟨-, -, h6⟩, ⟨-, -, q6⟩, -⟩ := id hS.1.1
  have l1 := lc_lt hh hl
  have ll := lc_le S H
  have nn : nbf S H (lc S h) = h := nbf_lc hh hl
  have ql := q0_lt hS hh hl
  obtain ⟨-, -, -, s3, s4⟩ := id hC
  unfold F_114
  rw [hsc]
  refine rn_ld (by omega) (by decide) ?_
  rw [hA.1 _ l1, nn]
  refine rn_ld (by omega) (by decide) (rn_ld (by omega) (by decide) (rn_st (by omega) (by decide) ?_))
  rw [(s3 _ l1).2.1, nn, hA.2 _ ql]
  refine rn_m (gl_114a (c9 := c9) (i := lc S h) r6 q6 h6 l1 nn (SC_k (kp_A (K := [11]) (by decide)) (by decide) hC) (fun r hr => ?_) hsc R 0 c9 (by omega) (kp_rf _ _) (oth_rf _ _) (fun z hz => absurd hz (Nat.not_lt_zero _))) (fun r ⟨a, b, c, e⟩ => ⟨by rw [a]; exact kp_A (by decide), by rw [a]; exact oth_A, b, c, e⟩)
  rw [cA_same]
  unfold hot
  by_cases u : r = q0 S h
  · subst u; rw [pk_us, if_pos rfl]
  · rw [pk_un u, if_neg u, hA.2 r hr, Int32.sub_zero]
/-- the rooms to which a set widens, by the class -/
theorem gl_115a {s : Nat} (r6 : R ≤ 6) (hs : s < 64) (h0 : cI c6 0 (cR c9 0 w) = nI R) (hL : LRo c9 w S R H D Q h R) : ∀ (m x : Nat), x + m = R → G_115 c6 c9 d w 0 [nI s, nI (mk (fun y => anyb (fun x => s.testBit x && rt S H D h x y) x) R), nI x] [] [] c13 = G_115 c6 c9 d w 1 [nI s, nI (mk (wi S R H D h s) R), 0] [] [] c13
  | 0, x, hx => by
    have : x = R := by omega
    subst this
    conv => lhs; rw [G_115]
    rw [h0, if_pos (nI_le (Nat.le_refl _) (by omega))]
    rfl
  | m + 1, x, hx => by
    have ih := gl_115a r6 hs h0 hL m (x + 1) (by omega)
    rw [← ih]
    conv => lhs; rw [G_115]
    rw [h0, if_neg (nI_ge (by omega) (by omega)), nI_1]
    refine ob_e (v := nI (mk (fun y => anyb (fun x => s.testBit x && rt S H D h x y) (x + 1)) R)) ?_ rfl
    by_cases q : s.testBit x = true
    · refine in_pos (bit1_if.mpr (by rw [b1_tb (by omega), if_pos q]; decide)) (ob_mk (v := nI (mk (rt S H D h x) R)) ((ald_ok (by omega) (by decide)).trans (by rw [(hL x (by omega)).1])) ?_)
      rw [mk_or (by omega)]
      congr 2
      exact mk_cg fun j hj => by show _ = (anyb _ x || _); simp [q]
    · refine in_neg (fun z => bit1_if.mp z (by rw [b1_tb (by omega), if_neg q])) ?_
      congr 2
      exact mk_cg fun j hj => by show _ = (anyb _ x || _); simp [q]
/-- a least room of those alike, and the set that its count leaves -/
def lst (S : Nat → Int32) (R H D Q h s t r : Nat) : Bool := decide (∀ i, i < R → al S Q r i = true → ¬ i < r) && decide (¬ t = 0) && decide (mk (fun y => wi S R H D h s y && al S Q r y) R = t)
theorem gl_115b {s : Nat} (r6 : R ≤ 6) (hs : s < 64) (h0 : cI c6 0 (cR c9 0 w) = nI R) (hL : LRo c9 w S R H D Q h R) {P P' : Nat} (e5 : cR c9 5 w = P) (e6 : cR c9 6 w = P') (hP : P ≠ P') (n5 : aN d P = 64) (n6 : aN d P' = 64) : ∀ (m x : Nat) (c' : Cl), x + m = R → Oth P' c13 c' → (∀ t, t < 64 → cB c' 0 P' t = cB c13 0 P' t + sl (fun r => if lst S R H D Q h s t r = true then cB c13 0 P s else 0) x) → Rn (G_115 c6 c9 d w 1 [nI s, nI (mk (wi S R H D h s) R), nI x] [] [] c') (fun r => Oth P' c13 r ∧ ∀ t, t < 64 → cB r 0 P' t = cB c13 0 P' t + sl (fun r => if lst S R H D Q h s t r = true then cB c13 0 P s else 0) R)
  | 0, x, c', hx, hO, h1 => by
    have : x = R := by omega
    subst this
    rw [G_115, h0]
    exact rn_p (nI_le (Nat.le_refl _) (by omega)) (rn_r ⟨hO, h1⟩)
  | m + 1, x, c', hx, hO, h1 => by
    have l6 : (2 : Nat) ^ R ≤ 2 ^ 6 := Nat.pow_le_pow_right (by decide) r6
    have a8 : cA c9 8 w x = nI (mk (al S Q x) R) := (hL x (by omega)).2
    have lt := mk_lt (fun y => wi S R H D h s y && al S Q x y) R
    have ev : cB c' 0 P s = cB c13 0 P s := by rw [(hO 0 P hP).2.2.2.2.1]
    rw [G_115, h0, e5, e6, n5, n6]
    refine rn_n (nI_ge (by omega) (by omega)) (rn_ld (by omega) (by decide) ?_)
    rw [a8, mk_low (by omega) (by omega)]
    have none : (∀ t, lst S R H D Q h s t x = false) → Rn (G_115 c6 c9 d w 1 [nI s, nI (mk (wi S R H D h s) R), nI x + 1] [] [] c') (fun r => Oth P' c13 r ∧ ∀ t, t < 64 → cB r 0 P' t = cB c13 0 P' t + sl (fun r => if lst S R H D Q h s t r = true then cB c13 0 P s else 0) R) := fun e => by
      rw [nI_1]
      refine gl_115b r6 hs h0 hL e5 e6 hP n5 n6 m (x + 1) c' (by omega) hO (fun t ht => ?_)
      show _ = cB c13 0 P' t + (sl _ x + (if lst S R H D Q h s t x = true then cB c13 0 P s else 0))
      rw [e t, if_neg (by decide), Int64.add_zero]; exact h1 t ht
    by_cases q : mk (fun i => al S Q x i && decide (i < x)) R = 0
    · have q2 : ∀ i, i < R → al S Q x i = true → ¬ i < x := fun i hi u v => by
        have := mk_ij (q := fun _ => false) (q.trans (mk_z fun _ _ => rfl).symm) hi
        simp [u, v] at this
      refine rn_e (v := 1) (in_pos ((mk_0 (by omega)).mpr q) rfl) ?_
      rw [if_neg (show ¬ (1 : Int32) = 0 by decide)]
      by_cases v : mk (fun y => wi S R H D h s y && al S Q x y) R = 0
      · refine rn_e (v := c') (ob_mk (ald_ok (by omega) (by decide)) (by rw [a8, mk_and (by omega)]; exact in_pos ((mk_0 (by omega)).mpr v) rfl)) (none fun t => ?_)
        unfold lst
        by_cases z : t = 0
        · simp [z]
        · have : ¬ mk (fun y => wi S R H D h s y && al S Q x y) R = t := by rw [v]; exact fun e => z e.symm
          simp [this]
      · obtain ⟨T, hT⟩ : ∃ T, T = mk (fun y => wi S R H D h s y && al S Q x y) R := ⟨_, rfl⟩
        have T64 : T < 64 := by omega
        refine rn_e (v := sB c' 0 P' (vp_updL (cB c' 0 P') T (cB c' 0 P' T + cB c' 0 P s))) (ob_mk (ald_ok (by omega) (by decide)) ?_) ?_
        · rw [a8, mk_and (by omega)]
          refine in_neg (fun z => v ((mk_0 (by omega)).mp z)) (ob_mk (ald_ok (by omega) (by decide)) ?_)
          rw [a8, mk_and (by omega), ← hT]
          exact ob_mk (ldl_ok T64 (by decide)) (ob_mk (ldl_ok hs (by decide)) (ob_mk (stl_ok T64 (by decide)) rfl))
        · rw [nI_1]
          refine gl_115b r6 hs h0 hL e5 e6 hP n5 n6 m (x + 1) _ (by omega) (oth_tr hO oth_B) (fun t ht => ?_)
          show _ = cB c13 0 P' t + (sl _ x + (if lst S R H D Q h s t x = true then cB c13 0 P s else 0))
          rw [cB_same]
          by_cases z : t = T
          · have : lst S R H D Q h s t x = true := by
              unfold lst
              rw [z, ← hT]
              have : ¬ T = 0 := by rw [hT]; exact v
              simp [this]; exact fun i a b => Nat.not_lt.mp (q2 i a b)
            rw [this, if_pos rfl, z, pk_uLs, ← z, h1 t ht, ev, Int64.add_assoc]
          · have : lst S R H D Q h s t x = false := by
              unfold lst
              have : ¬ mk (fun y => wi S R H D h s y && al S Q x y) R = t := by rw [← hT]; exact fun e => z e.symm
              simp [this]
            rw [this, if_neg (by decide), Int64.add_zero, pk_uLn z]; exact h1 t ht
    · refine rn_e (v := 0) (in_neg (fun z => q ((mk_0 (by omega)).mp z)) rfl) (rn_e (v := c') (in_pos rfl rfl) (none fun t => ?_))
      obtain ⟨i, hi, u⟩ := mk_nz q
      unfold lst
      have : ¬ ∀ i, i < R → al S Q x i = true → ¬ i < x := fun z => by
        simp at u
        exact z i hi u.1 u.2
      rw [decide_eq_false this]; rfl
/-- the least rooms give each set once -/
theorem lst_kb {s t : Nat} : (if anyb (lst S R H D Q h s t) R = true then (1 : Nat) else 0) = if kb S R H D Q h s t = true then 1 else 0 := by
  have e : anyb (lst S R H D Q h s t) R = true ↔ kb S R H D Q h s t = true := by
    rw [anyb_t]
    unfold kb
    rw [Bool.and_eq_true, anyb_t]
    constructor
    · rintro ⟨r, hr, u⟩
      unfold lst at u
      simp only [Bool.and_eq_true, decide_eq_true_eq] at u
      exact ⟨by simp [u.1.2], r, hr, by simp [u.2]⟩
    · rintro ⟨u, x, hx, v⟩
      simp only [decide_eq_true_eq] at u v
      obtain ⟨r, ⟨hr, er⟩, hm⟩ := pk_least (fun r => r < R ∧ sm S r Q = sm S x Q) ⟨x, hx, rfl⟩
      refine ⟨r, hr, ?_⟩
      unfold lst
      have ea : ∀ y, al S Q r y = al S Q x y := fun y => by unfold al; rw [er]
      have e2 : mk (fun y => wi S R H D h s y && al S Q r y) R = t := by rw [← v]; exact mk_cg fun y _ => by rw [ea]
      simp only [Bool.and_eq_true, decide_eq_true_eq]
      refine ⟨⟨fun i hi z w => hm i w ⟨hi, ?_⟩, u⟩, e2⟩
      unfold al at z
      simp only [decide_eq_true_eq] at z
      rw [← er]; exact z.symm
  by_cases q : kb S R H D Q h s t = true
  · rw [if_pos q, if_pos (e.mpr q)]
  · rw [if_neg q, if_neg (fun z => q (e.mp z))]
theorem lst_sum {s t : Nat} {v : Int64} : sl (fun r => if lst S R H D Q h s t r = true then v else 0) R = if kb S R H D Q h s t = true then v else 0 := by
  have un : ∀ i j, i < R → j < R → lst S R H D Q h s t i = true → lst S R H D Q h s t j = true → i = j := fun i j hi hj a b => by
    unfold lst at a b
    simp only [Bool.and_eq_true, decide_eq_true_eq] at a b
    obtain ⟨y, hy, u⟩ := mk_nz (p := fun y => wi S R H D h s y && al S Q i y) (n := R) (by rw [a.2]; exact a.1.2)
    have := mk_ij (a.2.trans b.2.symm) hy
    have u2 := u
    rw [this] at u2
    simp only [Bool.and_eq_true] at u u2
    have e1 := u.2
    have e2 := u2.2
    unfold al at e1 e2
    simp only [decide_eq_true_eq] at e1 e2
    have n1 := a.1.1 j hj (by unfold al; simp; omega)
    have n2 := b.1.1 i hi (by unfold al; simp; omega)
    omega
  rw [sl_1 un]
  have := lst_kb (S := S) (R := R) (H := H) (D := D) (Q := Q) (h := h) (s := s) (t := t)
  by_cases q : kb S R H D Q h s t = true
  · rw [if_pos q] at this ⊢
    rw [if_pos (Classical.byContradiction fun z => by rw [if_neg z] at this; exact absurd this (by decide))]
  · rw [if_neg q] at this ⊢
    rw [if_neg (fun z => by rw [if_pos z] at this; exact absurd this (by decide))]
theorem f_115 {s : Nat} (r6 : R ≤ 6) (hs : s < 64) (h0 : cI c6 0 (cR c9 0 w) = nI R) (hL : LRo c9 w S R H D Q h R) {P P' : Nat} (e5 : cR c9 5 w = P) (e6 : cR c9 6 w = P') (hP : P ≠ P') (n5 : aN d P = 64) (n6 : aN d P' = 64) : Rn (F_115 c6 c9 c13 d w (nI s)) (fun r => Oth P' c13 r ∧ ∀ t, t < 64 → cB r 0 P' t = cB c13 0 P' t + if kb S R H D Q h s t = true then cB c13 0 P s else 0) := by
  unfold F_115
  have a := gl_115a (c13 := c13) (d := d) r6 hs h0 hL R 0 (by omega)
  rw [show mk (fun y => anyb (fun x => s.testBit x && rt S H D h x y) 0) R = 0 from mk_z fun _ _ => rfl] at a
  have a' : G_115 c6 c9 d w 0 [nI s, 0, 0] [] [] c13 = G_115 c6 c9 d w 1 [nI s, nI (mk (wi S R H D h s) R), 0] [] [] c13 := a
  rw [a']
  refine rn_m (gl_115b (c13 := c13) (s := s) r6 hs h0 hL e5 e6 hP n5 n6 R 0 c13 (by omega) (oth_rf _ _) (fun t ht => by show _ = _ + 0; rw [Int64.add_zero])) (fun r ⟨a, b⟩ => ⟨a, fun t ht => ?_⟩)
  rw [b t ht, lst_sum]
end Msg
