/-! ===== rule: the call, both alike ===== -/
theorem enc_ren {s : Nat} (h : sgk s) : Enc (nI s) (nI (ren s)) := by
  unfold ren
  rcases h with h | ⟨h1, h2⟩ | ⟨h1, h2⟩
  · rw [if_pos h]; exact Or.inl ⟨s, h, rfl, rfl⟩
  · rw [if_neg (by omega), if_pos h1]
    exact Or.inr (Or.inl ⟨s - 100, by omega, congrArg nI (by omega), rfl⟩)
  · rw [if_neg (by omega), if_neg (by omega)]
    exact Or.inr (Or.inr ⟨s - 20, by omega, congrArg nI (by omega), rfl⟩)
theorem adm_4 (d : Ad) (a a1 a2 a3 : Nat) : Adm d (nD_4 d a a1 a2 a3) := by
  unfold nD_4
  refine adm_tr ?_ (adm_o _ _ _ _ _)
  refine adm_tr ?_ (adm_f _ _ _)
  refine adm_tr ?_ (adm_f _ _ _)
  refine adm_tr ?_ (adm_f _ _ _)
  refine adm_tr ?_ (adm_f _ _ _)
  exact adm_z _ _ _
theorem ndr_ok (d : Ad) (k cn : Nat) : Adm d (nDr d k cn) ∧ aX (nDr d k cn) = aX d + 5 ∧ aS (nDr d k cn) = aS d + 64 + k + 2 * cn ∧ aN (nDr d k cn) (aX d + 1) = k ∧ aN (nDr d k cn) (aX d + 2) = cn ∧ aN (nDr d k cn) (aX d + 3) = cn := by
  obtain ⟨e, he⟩ : ∃ e, e = adn (adn (adn (adr d 4) 1 k) 1 cn) 1 cn := ⟨_, rfl⟩
  have hD : nDr d k cn = nD_4 e (aX d) (aX d + 1) (aX d + 2) (aX d + 3) := by rw [he]; rfl
  have a4 := adm_4 e (aX d) (aX d + 1) (aX d + 2) (aX d + 3)
  have ex : aX e = aX d + 4 := by rw [he]; rfl
  have es : aS e = aS d + 4 + k + cn + cn := by rw [he]; rfl
  have A1 : Adm (adn (adr d 4) 1 k) (adn (adn (adr d 4) 1 k) 1 cn) := adm_n _ _ _
  have A2 : Adm (adn (adn (adr d 4) 1 k) 1 cn) e := by rw [he]; exact adm_n _ _ _
  have x1 : aX (adn (adr d 4) 1 k) = aX d + 2 := rfl
  have x2 : aX (adn (adn (adr d 4) 1 k) 1 cn) = aX d + 3 := rfl
  have n1 : aN e (aX d + 1) = k := by
    rw [A2.2.1 _ (by omega), A1.2.1 _ (by omega)]
    exact adn_N (adr d 4) 1 k
  have n2 : aN e (aX d + 2) = cn := by
    rw [A2.2.1 _ (by omega)]
    exact adn_N (adn (adr d 4) 1 k) 1 cn
  have n3 : aN e (aX d + 3) = cn := by rw [he]; exact adn_N (adn (adn (adr d 4) 1 k) 1 cn) 1 cn
  rw [hD]
  refine ⟨adm_tr (adm_tr (adm_tr (adm_r d 4) (adm_n _ _ _)) (adm_tr A1 A2)) a4, ?_, ?_, ?_, ?_, ?_⟩
  · rw [nD_4_x, ex]
  · rw [nD_4_s, es]; omega
  · rw [a4.2.1 _ (by omega)]; exact n1
  · rw [a4.2.1 _ (by omega)]; exact n2
  · rw [a4.2.1 _ (by omega)]; exact n3
/-- all rules, and that they lie below what is new -/
def RRx (c4 c11 c12 c13 : Cl) (d : Ad) (B B2 : Nat) : Prop := ∃ N, N ≤ 6 ∧ cI c11 6 B = nI N ∧ cI c12 2 B2 = nI N ∧ ∀ i, i < N → ∃ ru, cQ c11 5 B i = some ru ∧ (ru < aX d ∧ cR c4 0 ru < aX d ∧ cR c4 1 ru < aX d ∧ cR c4 2 ru < aX d) ∧ RuR c4 c13 d ru c12 B2 i
theorem RRx_rr {c4 c11 c12 c13 : Cl} {d : Ad} {B B2 : Nat} (h : RRx c4 c11 c12 c13 d B B2) : RR c4 c11 c12 c13 d B B2 := by
  obtain ⟨N, h1, h2, h3, h4⟩ := h
  exact ⟨N, h1, h2, h3, fun i hi => by obtain ⟨ru, a, _, b⟩ := h4 i hi; exact ⟨ru, a, b⟩⟩
/-- rules that are new lie in what is new -/
def RNw (B X : Nat) (c11 c4' c11' : Cl) (X' : Nat) : Prop := ∀ i r, cQ c11' 5 B i = some r → cQ c11 5 B i = some r ∨ (X ≤ r ∧ r < X' ∧ ∀ k, k < 3 → X ≤ cR c4' k r ∧ cR c4' k r < X')
section QRule
variable {c3 c4 c5 c11 c12 c13 : Cl} {d : Ad} {B B2 rd ru : Nat} {u : Nat → Nat} {l : Nat}
/-- a rule stays what it is while others are made -/
theorem RuR_new {c4' c12' c13' : Cl} {d' : Ad} {r i t : Nat} (hA : Adm d d') (b1 : r < aX d ∧ cR c4 0 r < aX d ∧ cR c4 1 r < aX d ∧ cR c4 2 r < aX d) (h4 : Oth (aX d) c4 c4') (h13 : ∀ a, a < aX d → cA c13' 0 a = cA c13 0 a) (hi : i < t) (hF : FC B2 t c12 c12') (h : RuR c4 c13 d r c12 B2 i) : RuR c4' c13' d' r c12' B2 i := by
  obtain ⟨n, nc, b, e, g1, g2, g3, g4, g5, g6, g7, g8⟩ := h
  have o := h4
  have r0 : cR c4' 0 r = cR c4 0 r := (o 0 r (by omega)).2.2.1
  have r1 : cR c4' 1 r = cR c4 1 r := (o 1 r (by omega)).2.2.1
  have r2 : cR c4' 2 r = cR c4 2 r := (o 2 r (by omega)).2.2.1
  unfold RuR
  rw [r0, r1, r2, h13 _ b1.2.1, h13 _ b1.2.2.1, h13 _ b1.2.2.2]
  refine ⟨n, nc, b, e, by rw [hA.2.1 _ b1.2.1]; exact g1, g2, by rw [hA.2.1 _ b1.2.2.1]; exact g3, by rw [hA.2.1 _ b1.2.2.2]; exact g4, g5, by rw [hF.2.2.2 _ (by omega)]; exact g6, fun k hk => by rw [hF.2.1 _ (by omega)]; exact g7 k hk, fun c hc => ?_⟩
  obtain ⟨a1, a2, a3, a4, a5, a6, a7, a8, a9, a10, a11⟩ := g8 c hc
  exact ⟨a1, a2, a3, a4, a5, by rw [hF.2.2.1 _ (by omega)]; exact a6, by rw [hF.2.2.1 _ (by omega)]; exact a7, by rw [hF.2.2.1 _ (by omega)]; exact a8, by rw [hF.2.2.1 _ (by omega)]; exact a9, a10, a11⟩
/-- the new one -/
theorem RuR_mk {c12' : Cl} {t : Nat} {x : Ps} {cn : Nat} {b e : Nat → Nat} (h : JF t c5 c12' ru B2 x cn b e) : RuR (nC_4 c4 (aX d) (aX d + 1) (aX d + 2) (aX d + 3)) (n13 c13 c5 ru (aX d)) (nDr d (rK x) cn) (aX d) c12' B2 t := by
  obtain ⟨h1, h2, h3, h4, h5, ⟨h6, h7, h8⟩, h9⟩ := h
  obtain ⟨-, -, -, n1, n2, n3⟩ := ndr_ok d (rK x) cn
  have r0 : cR (nC_4 c4 (aX d) (aX d + 1) (aX d + 2) (aX d + 3)) 0 (aX d) = aX d + 1 := by unfold nC_4; simp only [cI_sI, cI_sJ, cI_sR, cI_sA, cI_sB, cI_sQ, cR_sI, cR_sJ, cR_sR, cR_sA, cR_sB, cR_sQ, cA_sI, cA_sJ, cA_sR, cA_sA, cA_sB, cA_sQ, Nat.reduceEqDiff, false_and, and_false, and_true, true_and, if_false, if_true, and_self, ↓reduceIte]
  have r1 : cR (nC_4 c4 (aX d) (aX d + 1) (aX d + 2) (aX d + 3)) 1 (aX d) = aX d + 2 := by unfold nC_4; simp only [cI_sI, cI_sJ, cI_sR, cI_sA, cI_sB, cI_sQ, cR_sI, cR_sJ, cR_sR, cR_sA, cR_sB, cR_sQ, cA_sI, cA_sJ, cA_sR, cA_sA, cA_sB, cA_sQ, Nat.reduceEqDiff, false_and, and_false, and_true, true_and, if_false, if_true, and_self, ↓reduceIte]
  have r2 : cR (nC_4 c4 (aX d) (aX d + 1) (aX d + 2) (aX d + 3)) 2 (aX d) = aX d + 3 := by unfold nC_4; simp only [cI_sI, cI_sJ, cI_sR, cI_sA, cI_sB, cI_sQ, cR_sI, cR_sJ, cR_sR, cR_sA, cR_sB, cR_sQ, cA_sI, cA_sJ, cA_sR, cA_sA, cA_sB, cA_sQ, Nat.reduceEqDiff, false_and, and_false, and_true, true_and, if_false, if_true, and_self, ↓reduceIte]
  have s1 : cA (n13 c13 c5 ru (aX d)) 0 (aX d + 1) = cpf 400 (cA c5 1 ru) := by
    unfold n13
    rw [cA_sA, if_neg (fun z => by have := z.2; omega), cA_sA, if_neg (fun z => by have := z.2; omega), cA_same]
  have s2 : cA (n13 c13 c5 ru (aX d)) 0 (aX d + 2) = cpf 12 (cA c5 4 ru) := by
    unfold n13
    rw [cA_sA, if_neg (fun z => by have := z.2; omega), cA_same]
  have s3 : cA (n13 c13 c5 ru (aX d)) 0 (aX d + 3) = cpf 12 (cA c5 5 ru) := by unfold n13; rw [cA_same]
  have code : ∀ i, i < rK x → cpf 400 (cA c5 1 ru) i = nI (rC x i) := fun i hi => by unfold cpf; rw [if_pos (by omega)]; exact h3 i hi
  unfold RuR
  rw [r0, r1, r2, s1, s2, s3]
  refine ⟨rK x, cn, b, e, n1, h2, n2, n3, h8, h6, fun i hi => ?_, fun c hc => ?_⟩
  · rw [code i hi, h4 i hi]; exact enc_ren (h5 i hi)
  · obtain ⟨⟨a1, a2, a3⟩, ⟨a4, a5⟩, ⟨a6, a7, a8, a9⟩, a10, a11⟩ := h9 c hc
    refine ⟨a1, a2, a3, by unfold cpf; rw [if_pos (by omega)]; exact a4, by unfold cpf; rw [if_pos (by omega)]; exact a5, a6, a7, a8, a9, fun w => ?_, fun hne w => ?_⟩
    · obtain ⟨v, hv⟩ := a10 w
      exact ⟨v, by rw [← hv]; exact rns_cg fun k ka kb => code k (by omega)⟩
    · obtain ⟨v, hv0, hv⟩ := a11 hne w
      exact ⟨v, hv0, by rw [← hv]; exact rns_cg fun k ka kb => code k (by omega)⟩
theorem q_rule (h : RRx c4 c11 c12 c13 d B B2) (hu : ∀ j, u j < 256) (l4 : l ≤ 400) (t1 : cI c11 1 B = nI l) (t2 : cI c12 1 B2 = nI l) (t3 : ∀ j, j < l → cA c11 0 B j = bI (u j)) (t4 : ∀ j, j < l → cA c12 0 B2 j = bI (u j)) (e2 : cR c11 2 B = rd) (e4 : cR c11 4 B = ru) (e50 : cR c5 0 ru = rd) (e30 : cR c3 0 rd = B) : ∃ rx rm, F_126 c3 c4 c5 c11 c13 d B = some rx ∧ F_211 c12 B2 = some rm ∧ rx.1 = rm.1 ∧ (Kp [1, 2, 3, 4, 5, 6, 7] c3 rx.2.1 ∧ Oth rd c3 rx.2.1) ∧ Oth (aX d) c4 rx.2.2.1 ∧ (Kp [1, 2, 3, 4, 5] c5 rx.2.2.2.1 ∧ Oth ru c5 rx.2.2.2.1) ∧ (Kp [1, 5, 6] c11 rx.2.2.2.2.1 ∧ Oth B c11 rx.2.2.2.2.1) ∧ Ofa (aX d) [] c13 rx.2.2.2.2.2.1 ∧ (Adm d rx.2.2.2.2.2.2 ∧ aX rx.2.2.2.2.2.2 ≤ aX d + 5 ∧ aS rx.2.2.2.2.2.2 ≤ aS d + 500) ∧ Kp [1, 2, 3, 4, 5, 6, 8, 9, 10, 11, 12, 13, 14, 15, 16] c12 rm.2 ∧ (∃ l', l' ≤ l ∧ cI rx.2.2.2.2.1 1 B = nI l' ∧ cI rm.2 1 B2 = nI l') ∧ RRx rx.2.2.1 rx.2.2.2.2.1 rm.2 rx.2.2.2.2.2.1 rx.2.2.2.2.2.2 B B2 ∧ RNw B (aX d) c11 rx.2.2.1 rx.2.2.2.2.1 (aX rx.2.2.2.2.2.2) := by
  obtain ⟨N, hN, hN1, hN2, hR⟩ := id h
  by_cases w : N < 6
  · -- the class begins
    obtain ⟨r22, g1, g2, g3, g4, g5⟩ := f_22 (c3 := c3) (c11 := c11) (rd := rd) hu l4 (fun j hj => by rw [e30]; exact t3 j hj)
    obtain ⟨c5a, hc5a⟩ : ∃ c5a, c5a = sI (sI c5 2 ru 0) 3 ru 0 := ⟨_, rfl⟩
    have k5 : Kp [1, 2, 3, 4, 5] c5 c5a := by rw [hc5a]; exact kp_tr (kp_I (by decide)) (kp_I (by decide))
    have o5 : Oth ru c5 c5a := by rw [hc5a]; exact oth_tr oth_I oth_I
    -- the reference begins
    obtain ⟨m1, hm1⟩ : ∃ m1, m1 = sA (sI c12 11 B2 (nI N)) 6 B2 (upd (cA c12 6 B2) N 0) := ⟨_, rfl⟩
    obtain ⟨m2, hm2⟩ : ∃ m2, m2 = sI (sI (sI (sI (sA m1 4 B2 (upd (cA m1 4 B2) N 0)) 14 B2 0) 8 B2 0) 9 B2 0) 12 B2 0 := ⟨_, rfl⟩
    have km1 : Kp [6, 11] c12 m1 := by rw [hm1]; exact kp_tr (kp_I (by decide)) (kp_A (by decide))
    have km2 : Kp [4, 8, 9, 12, 14] m1 m2 := by rw [hm2]; exact kp_tr (kp_A (by decide)) (kp_tr (kp_I (by decide)) (kp_tr (kp_I (by decide)) (kp_tr (kp_I (by decide)) (kp_I (by decide)))))
    have e11 : cI m1 11 B2 = nI N := by rw [hm1]; simp only [cI_sI, cI_sJ, cI_sR, cI_sA, cI_sB, cI_sQ, cR_sI, cR_sJ, cR_sR, cR_sA, cR_sB, cR_sQ, cA_sI, cA_sJ, cA_sR, cA_sA, cA_sB, cA_sQ, Nat.reduceEqDiff, false_and, and_false, and_true, true_and, if_false, if_true, and_self, ↓reduceIte]
    have e11' : cI m2 11 B2 = nI N := by rw [(km2 11 (by decide)).1]; exact e11
    have m6 : cA m1 6 B2 = upd (cA c12 6 B2) N 0 := by rw [hm1, cA_same]
    have m26 : cA m2 6 B2 = upd (cA c12 6 B2) N 0 := by rw [(km2 6 (by decide)).2.2.2.1]; exact m6
    have kk : Kp [4, 6, 8, 9, 11, 12, 14] c12 m2 := kp_tr (kp_wd km1 (by decide)) (kp_wd km2 (by decide))
    have hRP : RP m2 B2 u l 0 := ⟨fun j hj => by rw [(kk 0 (by decide)).2.2.2.1]; exact t4 j hj, by rw [(kk 1 (by decide)).1]; exact t2, by rw [hm2]; simp only [cI_sI, cI_sJ, cI_sR, cI_sA, cI_sB, cI_sQ, cR_sI, cR_sJ, cR_sR, cR_sA, cR_sB, cR_sQ, cA_sI, cA_sJ, cA_sR, cA_sA, cA_sB, cA_sQ, Nat.reduceEqDiff, false_and, and_false, and_true, true_and, if_false, if_true, and_self, ↓reduceIte]; rfl, Nat.zero_le _⟩
    have skl : sk u l 0 ≤ l := sk_le (Nat.zero_le _)
    have hJ : JR rd ru B2 N u l r22 c5a m2 (sk u l 0, 0, 0, fun _ => 0) 0 (fun _ => 0) (fun _ => 0) := by
      refine ⟨⟨⟨g4, g5⟩, ?_, Nat.zero_le _, ?_, Nat.zero_le _, fun i hi => absurd hi (Nat.not_lt_zero _), ?_⟩, ⟨⟨0, hRP, rfl⟩, ?_, e11', ?_, ?_, fun i hi => absurd hi (Nat.not_lt_zero _)⟩, ⟨Nat.zero_le _, skl, Nat.zero_le _⟩, ?_, ?_, Nat.zero_le _, fun i hi => absurd hi (Nat.not_lt_zero _), fun i hi => absurd hi (Nat.not_lt_zero _), fun i hi => absurd hi (Nat.not_lt_zero _), ⟨?_, rfl, Nat.zero_le _⟩, fun i hi => absurd hi (Nat.not_lt_zero _)⟩
      · rw [hc5a]; simp only [cI_sI, cI_sJ, cI_sR, cI_sA, cI_sB, cI_sQ, cR_sI, cR_sJ, cR_sR, cR_sA, cR_sB, cR_sQ, cA_sI, cA_sJ, cA_sR, cA_sA, cA_sB, cA_sQ, Nat.reduceEqDiff, false_and, and_false, and_true, true_and, if_false, if_true, and_self, ↓reduceIte]; rfl
      · rw [hc5a]; simp only [cI_sI, cI_sJ, cI_sR, cI_sA, cI_sB, cI_sQ, cR_sI, cR_sJ, cR_sR, cR_sA, cR_sB, cR_sQ, cA_sI, cA_sJ, cA_sR, cA_sA, cA_sB, cA_sQ, Nat.reduceEqDiff, false_and, and_false, and_true, true_and, if_false, if_true, and_self, ↓reduceIte]; rfl
      · rw [hc5a]; exact e50
      · rw [hm2]; simp only [cI_sI, cI_sJ, cI_sR, cI_sA, cI_sB, cI_sQ, cR_sI, cR_sJ, cR_sR, cR_sA, cR_sB, cR_sQ, cA_sI, cA_sJ, cA_sR, cA_sA, cA_sB, cA_sQ, Nat.reduceEqDiff, false_and, and_false, and_true, true_and, if_false, if_true, and_self, ↓reduceIte]
      · rw [hm2]; simp only [cI_sI, cI_sJ, cI_sR, cI_sA, cI_sB, cI_sQ, cR_sI, cR_sJ, cR_sR, cR_sA, cR_sB, cR_sQ, cA_sI, cA_sJ, cA_sR, cA_sA, cA_sB, cA_sQ, Nat.reduceEqDiff, false_and, and_false, and_true, true_and, if_false, if_true, and_self, ↓reduceIte]; rw [pk_us]; rfl
      · rw [hm2]; simp only [cI_sI, cI_sJ, cI_sR, cI_sA, cI_sB, cI_sQ, cR_sI, cR_sJ, cR_sR, cR_sA, cR_sB, cR_sQ, cA_sI, cA_sJ, cA_sR, cA_sA, cA_sB, cA_sQ, Nat.reduceEqDiff, false_and, and_false, and_true, true_and, if_false, if_true, and_self, ↓reduceIte]; rfl
      · rw [hm2]; simp only [cI_sI, cI_sJ, cI_sR, cI_sA, cI_sB, cI_sQ, cR_sI, cR_sJ, cR_sR, cR_sA, cR_sB, cR_sQ, cA_sI, cA_sJ, cA_sR, cA_sA, cA_sB, cA_sQ, Nat.reduceEqDiff, false_and, and_false, and_true, true_and, if_false, if_true, and_self, ↓reduceIte]; rfl
      · rw [hc5a]; simp only [cI_sI, cI_sJ, cI_sR, cI_sA, cI_sB, cI_sQ, cR_sI, cR_sJ, cR_sR, cR_sA, cR_sB, cR_sQ, cA_sI, cA_sJ, cA_sR, cA_sA, cA_sB, cA_sQ, Nat.reduceEqDiff, false_and, and_false, and_true, true_and, if_false, if_true, and_self, ↓reduceIte]; rfl
      · rw [m26, pk_us]; rfl
    obtain ⟨rx, rm, x1, x2, x3, x4, ⟨x5, x6, x7, x8⟩, x9⟩ := rl_all (c4 := c4) (c11 := c11) (c13 := c13) (d := d) hu l4 w hJ
    have x41 : F_41 c3 c4 c5 c11 c13 d ru (nI l) = some rx := by
      unfold F_41
      rw [e50]
      refine ob_mk g1 (ob_mk rfl (ob_mk (v := c5a) (by rw [hc5a]) x1))
    have m210 : F_210 m1 B2 = some rm := by
      unfold F_210
      rw [e11]
      refine ob_mk (v := sA m1 4 B2 (upd (cA m1 4 B2) N 0)) (ast_ok (by omega) (by decide)) (ob_mk rfl (ob_mk rfl (ob_mk rfl (ob_mk rfl ?_))))
      rw [← hm2]; exact x2
    have n6 : ¬ nI N = (6 : Int32) := fun z => by have := (nI_eq (a := N) (b := 6) (by omega) (by omega)).mp z; omega
    have hm : ∀ {y}, (if rm.1 = 0 then some ((-2) - (cI rm.2 9 B2), rm.2) else some (sI rm.2 2 B2 ((cI rm.2 2 B2) + 1)) >>= fun c12_6 => some ((cI c12_6 2 B2) - 1, c12_6)) = some y → F_211 c12 B2 = some y := fun {y} ey => by
      unfold F_211
      rw [hN2]
      refine in_neg n6 (ob_mk rfl (ob_mk (v := m1) ?_ (ob_mk m210 ey)))
      rw [show cI (sI c12 11 B2 (nI N)) 11 B2 = nI N from cI_same .., hm1]
      exact ast_ok w (by decide)
    have Fm : FC B2 N m2 rm.2 := x3
    have kz : Kp [1, 3, 4, 5, 6, 8, 9, 10, 11, 12, 13, 14, 15, 16] c12 rm.2 := kp_tr (kp_wd kk (by decide)) (kp_wd Fm.1 (by decide))
    have F0 : FC B2 N c12 m2 → False ∨ True := fun _ => Or.inr trivial
    have row3 : ∀ j, (j < 400 * N ∨ 400 * N + 400 ≤ j) → cA rm.2 3 B2 j = cA c12 3 B2 j := fun j hj => by rw [Fm.2.1 j hj, (kk 3 (by decide)).2.2.2.1]
    have row5 : ∀ j, (j < 48 * N ∨ 48 * N + 48 ≤ j) → cA rm.2 5 B2 j = cA c12 5 B2 j := fun j hj => by rw [Fm.2.2.1 j hj, (kk 5 (by decide)).2.2.2.1]
    have row6 : ∀ j, j ≠ N → cA rm.2 6 B2 j = cA c12 6 B2 j := fun j hj => by rw [Fm.2.2.2 j hj, m26, pk_un hj]
    have hc : cI c11 6 B < 6 := by rw [hN1]; exact show nI N < nI 6 from nI_lt w (by decide)
    have hx0 : ∀ {y}, (if rx.1 = none then some ((-2) - (cI rx.2.1 7 rd), rx.2.1, rx.2.2.1, rx.2.2.2.1, sI c11 1 B 0, rx.2.2.2.2.1, rx.2.2.2.2.2) else rx.1 >>= fun o10 => asq (sI c11 1 B 0) 5 B 6 (nI N) o10 >>= fun c11_12 => some (sI c11_12 6 B ((cI c11_12 6 B) + 1)) >>= fun c11_13 => some ((cI c11_13 6 B) - 1, rx.2.1, rx.2.2.1, rx.2.2.2.1, c11_13, rx.2.2.2.2.1, rx.2.2.2.2.2)) = some y → F_126 c3 c4 c5 c11 c13 d B = some y := fun {y} ey => by
      unfold F_126
      rw [e4, t1]
      refine in_pos hc (ob_mk x41 (ob_mk rfl ?_))
      have q1 : cR (sI c11 1 B 0) 2 B = rd := e2
      have q2 : cI (sI c11 1 B 0) 6 B = nI N := by rw [cI_sI, if_neg (fun z => absurd z.1 (by decide))]; exact hN1
      rw [q1, q2]
      exact ey
    have K3 : Kp [1, 2, 3, 4, 5, 6, 7] c3 rx.2.1 := kp_tr g2 (kp_wd x5 (by decide))
    have O3 : Oth rd c3 rx.2.1 := oth_tr g3 x6
    have K5 : Kp [1, 2, 3, 4, 5] c5 rx.2.2.2.1 := kp_tr k5 x7
    have O5 : Oth ru c5 rx.2.2.2.1 := oth_tr o5 x8
    rcases x9 with ⟨y1, x, cn, b, e, y2, y3, y4, y5, y6⟩ | ⟨y1, y3, y4, y5, y6, f, y7, y8⟩
    · -- a rule more
      obtain ⟨c11b, hc11b⟩ : ∃ c11b, c11b = sI (sQ (sI c11 1 B 0) 5 B (va_up (cQ c11 5 B) N (some (aX d)))) 6 B (nI (N + 1)) := ⟨_, rfl⟩
      obtain ⟨dA, dX, dS, -⟩ := ndr_ok d (rK x) cn
      have cn12 : cn ≤ 12 := y2.2.2.2.2.2.1.2.2
      have O4 : Oth (aX d) c4 (nC_4 c4 (aX d) (aX d + 1) (aX d + 2) (aX d + 3)) := by
        unfold nC_4
        refine oth_tr (oth_tr (oth_tr ?_ oth_R) oth_R) oth_R
        intro k a n
        refine ⟨?_, ?_, ?_, ?_, ?_, ?_⟩ <;> exact if_neg n
      have A13 : ∀ k a, a < aX d → cA (n13 c13 rx.2.2.2.1 ru (aX d)) k a = cA c13 k a ∧ cB (n13 c13 rx.2.2.2.1 ru (aX d)) k a = cB c13 k a := fun k a ha => by
        unfold n13
        exact ⟨by rw [cA_sA, if_neg (fun z => by have := z.2; omega), cA_sA, if_neg (fun z => by have := z.2; omega), cA_sA, if_neg (fun z => by have := z.2; omega)], rfl⟩
      have hx : F_126 c3 c4 c5 c11 c13 d B = some (nI N, rx.2.1, rx.2.2.1, rx.2.2.2.1, c11b, rx.2.2.2.2.1, rx.2.2.2.2.2) := by
        refine hx0 (in_neg (by rw [y3]; exact fun z => by cases z) ?_)
        rw [y3]
        refine ob_mk (v := aX d) rfl (ob_mk (v := sQ (sI c11 1 B 0) 5 B (va_up (cQ c11 5 B) N (some (aX d)))) ?_ (ob_mk (v := c11b) ?_ ?_))
        · unfold asq
          rw [nI_clamp (by omega), if_neg]
          · rfl
          · rintro (z | z)
            · exact absurd z (nI_pos (by omega))
            · omega
        · rw [hc11b]
          have : cI (sQ (sI c11 1 B 0) 5 B (va_up (cQ c11 5 B) N (some (aX d)))) 6 B = nI N := by
            simp only [cI_sI, cI_sJ, cI_sR, cI_sA, cI_sB, cI_sQ, cR_sI, cR_sJ, cR_sR, cR_sA, cR_sB, cR_sQ, cA_sI, cA_sJ, cA_sR, cA_sA, cA_sB, cA_sQ, Nat.reduceEqDiff, false_and, and_false, and_true, true_and, if_false, if_true, and_self, ↓reduceIte]; exact hN1
          rw [this, nI_1]
        · have : cI c11b 6 B = nI (N + 1) := by rw [hc11b, cI_same]
          rw [this, nI_pred]
      have hmm : F_211 c12 B2 = some (nI N, sI rm.2 2 B2 (nI (N + 1))) := by
        refine hm (in_neg (by rw [y1]; decide) ?_)
        have q : cI rm.2 2 B2 = nI N := by rw [(kz 2 (by decide)).1]; exact hN2
        rw [q, nI_1]
        refine ob_mk rfl ?_
        rw [cI_same, nI_pred]
      have km' : Kp [2] rm.2 (sI rm.2 2 B2 (nI (N + 1))) := kp_I (by decide)
      refine ⟨_, _, hx, hmm, rfl, ⟨K3, O3⟩, by show Oth (aX d) c4 rx.2.2.1; rw [y4]; exact O4, ⟨K5, O5⟩, ⟨by show Kp [1, 5, 6] c11 c11b; rw [hc11b]; exact kp_tr (kp_I (by decide)) (kp_tr (kp_Q (by decide)) (kp_I (by decide))), by show Oth B c11 c11b; rw [hc11b]; exact oth_tr oth_I (oth_tr oth_Q oth_I)⟩, by show Ofa (aX d) [] c13 rx.2.2.2.2.1; rw [y5]; exact fun k a ha _ => A13 k a ha, ?_, kp_tr (kp_wd kz (by decide)) (kp_wd km' (by decide)), ⟨0, Nat.zero_le _, ?_, ?_⟩, ?_, ?_⟩
      · show Adm d rx.2.2.2.2.2 ∧ _
        rw [y6]
        have := y2.2.1
        exact ⟨dA, by omega, by omega⟩
      · show cI c11b 1 B = nI 0
        rw [hc11b]; simp only [cI_sI, cI_sJ, cI_sR, cI_sA, cI_sB, cI_sQ, cR_sI, cR_sJ, cR_sR, cR_sA, cR_sB, cR_sQ, cA_sI, cA_sJ, cA_sR, cA_sA, cA_sB, cA_sQ, Nat.reduceEqDiff, false_and, and_false, and_true, true_and, if_false, if_true, and_self, ↓reduceIte]; rfl
      · show cI (sI rm.2 2 B2 (nI (N + 1))) 1 B2 = nI 0
        rw [(km' 1 (by decide)).1]; exact x4
      · show RRx rx.2.2.1 c11b (sI rm.2 2 B2 (nI (N + 1))) rx.2.2.2.2.1 rx.2.2.2.2.2 B B2
        rw [y4, y5, y6]
        refine ⟨N + 1, by omega, by rw [hc11b, cI_same], by rw [cI_same], fun i hi => ?_⟩
        have cq : cQ c11b 5 B = va_up (cQ c11 5 B) N (some (aX d)) := by rw [hc11b]; show cQ (sQ (sI c11 1 B 0) 5 B _) 5 B = _; rw [cQ_sQ, if_pos ⟨rfl, rfl⟩]
        rw [cq, dX]
        have kc : Kp [2] rm.2 (sI rm.2 2 B2 (nI (N + 1))) := km'
        have c3' : cA (sI rm.2 2 B2 (nI (N + 1))) = cA rm.2 := cA_sI ..
        have RuC : ∀ {r i}, RuR (nC_4 c4 (aX d) (aX d + 1) (aX d + 2) (aX d + 3)) (n13 c13 rx.2.2.2.1 ru (aX d)) (nDr d (rK x) cn) r rm.2 B2 i → RuR (nC_4 c4 (aX d) (aX d + 1) (aX d + 2) (aX d + 3)) (n13 c13 rx.2.2.2.1 ru (aX d)) (nDr d (rK x) cn) r (sI rm.2 2 B2 (nI (N + 1))) B2 i := fun {r i} hr => by unfold RuR; rw [c3']; exact hr
        by_cases z : i = N
        · subst z
          refine ⟨aX d, by unfold va_up; rw [if_pos rfl], ⟨by omega, ?_, ?_, ?_⟩, RuC (RuR_mk y2)⟩
          · unfold nC_4; simp only [cI_sI, cI_sJ, cI_sR, cI_sA, cI_sB, cI_sQ, cR_sI, cR_sJ, cR_sR, cR_sA, cR_sB, cR_sQ, cA_sI, cA_sJ, cA_sR, cA_sA, cA_sB, cA_sQ, Nat.reduceEqDiff, false_and, and_false, and_true, true_and, if_false, if_true, and_self, ↓reduceIte]; omega
          · unfold nC_4; simp only [cI_sI, cI_sJ, cI_sR, cI_sA, cI_sB, cI_sQ, cR_sI, cR_sJ, cR_sR, cR_sA, cR_sB, cR_sQ, cA_sI, cA_sJ, cA_sR, cA_sA, cA_sB, cA_sQ, Nat.reduceEqDiff, false_and, and_false, and_true, true_and, if_false, if_true, and_self, ↓reduceIte]; omega
          · unfold nC_4; simp only [cI_sI, cI_sJ, cI_sR, cI_sA, cI_sB, cI_sQ, cR_sI, cR_sJ, cR_sR, cR_sA, cR_sB, cR_sQ, cA_sI, cA_sJ, cA_sR, cA_sA, cA_sB, cA_sQ, Nat.reduceEqDiff, false_and, and_false, and_true, true_and, if_false, if_true, and_self, ↓reduceIte]; omega
        · obtain ⟨r, p1, p2, p3⟩ := hR i (by omega)
          have o := O4
          refine ⟨r, by unfold va_up; rw [if_neg z]; exact p1, ⟨by omega, by rw [(o 0 r (by omega)).2.2.1]; omega, by rw [(o 1 r (by omega)).2.2.1]; omega, by rw [(o 2 r (by omega)).2.2.1]; omega⟩, RuC ?_⟩
          obtain ⟨n, nc, bb, ee, q1, q2, q3, q4, q5, q6, q7, q8⟩ := id p3
          have r0 : cR (nC_4 c4 (aX d) (aX d + 1) (aX d + 2) (aX d + 3)) 0 r = cR c4 0 r := (o 0 r (by omega)).2.2.1
          have r1 : cR (nC_4 c4 (aX d) (aX d + 1) (aX d + 2) (aX d + 3)) 1 r = cR c4 1 r := (o 1 r (by omega)).2.2.1
          have r2 : cR (nC_4 c4 (aX d) (aX d + 1) (aX d + 2) (aX d + 3)) 2 r = cR c4 2 r := (o 2 r (by omega)).2.2.1
          unfold RuR
          rw [r0, r1, r2, (A13 0 _ p2.2.1).1, (A13 0 _ p2.2.2.1).1, (A13 0 _ p2.2.2.2).1]
          refine ⟨n, nc, bb, ee, by rw [dA.2.1 _ p2.2.1]; exact q1, q2, by rw [dA.2.1 _ p2.2.2.1]; exact q3, by rw [dA.2.1 _ p2.2.2.2]; exact q4, q5, by rw [row6 _ z]; exact q6, fun k hk => by rw [row3 _ (by omega)]; exact q7 k hk, fun c hc => ?_⟩
          obtain ⟨a1, a2, a3, a4, a5, a6, a7, a8, a9, a10, a11⟩ := q8 c hc
          exact ⟨a1, a2, a3, a4, a5, by rw [row5 _ (by omega)]; exact a6, by rw [row5 _ (by omega)]; exact a7, by rw [row5 _ (by omega)]; exact a8, by rw [row5 _ (by omega)]; exact a9, a10, a11⟩
      · show RNw B (aX d) c11 rx.2.2.1 c11b (aX rx.2.2.2.2.2)
        have cq : cQ c11b 5 B = va_up (cQ c11 5 B) N (some (aX d)) := by rw [hc11b]; show cQ (sQ (sI c11 1 B 0) 5 B _) 5 B = _; rw [cQ_sQ, if_pos ⟨rfl, rfl⟩]
        intro i r q
        rw [cq] at q
        unfold va_up at q
        by_cases z : i = N
        · rw [if_pos z] at q
          cases q
          refine Or.inr ⟨Nat.le_refl _, by rw [y6, dX]; omega, fun k hk => ?_⟩
          rw [y4, y6, dX]
          have k3 : k = 0 ∨ k = 1 ∨ k = 2 := by omega
          rcases k3 with rfl | rfl | rfl
          · unfold nC_4; simp only [cI_sI, cI_sJ, cI_sR, cI_sA, cI_sB, cI_sQ, cR_sI, cR_sJ, cR_sR, cR_sA, cR_sB, cR_sQ, cA_sI, cA_sJ, cA_sR, cA_sA, cA_sB, cA_sQ, Nat.reduceEqDiff, false_and, and_false, and_true, true_and, if_false, if_true, and_self, ↓reduceIte]; omega
          · unfold nC_4; simp only [cI_sI, cI_sJ, cI_sR, cI_sA, cI_sB, cI_sQ, cR_sI, cR_sJ, cR_sR, cR_sA, cR_sB, cR_sQ, cA_sI, cA_sJ, cA_sR, cA_sA, cA_sB, cA_sQ, Nat.reduceEqDiff, false_and, and_false, and_true, true_and, if_false, if_true, and_self, ↓reduceIte]; omega
          · unfold nC_4; simp only [cI_sI, cI_sJ, cI_sR, cI_sA, cI_sB, cI_sQ, cR_sI, cR_sJ, cR_sR, cR_sA, cR_sB, cR_sQ, cA_sI, cA_sJ, cA_sR, cA_sA, cA_sB, cA_sQ, Nat.reduceEqDiff, false_and, and_false, and_true, true_and, if_false, if_true, and_self, ↓reduceIte]; omega
        · rw [if_neg z] at q
          exact Or.inl q
    · -- a fault
      have hx : F_126 c3 c4 c5 c11 c13 d B = some ((-2) - nI f, rx.2.1, rx.2.2.1, rx.2.2.2.1, sI c11 1 B 0, rx.2.2.2.2.1, rx.2.2.2.2.2) := hx0 (in_pos y3 (by rw [y7]))
      have hmm : F_211 c12 B2 = some ((-2) - nI f, rm.2) := hm (in_pos y1 (by rw [y8]))
      refine ⟨_, _, hx, hmm, rfl, ⟨K3, O3⟩, by show Oth (aX d) c4 rx.2.2.1; rw [y4]; exact oth_rf _ _, ⟨K5, O5⟩, ⟨kp_I (by decide), oth_I⟩, by show Ofa (aX d) [] c13 rx.2.2.2.2.1; rw [y5]; exact ofa_rf _ _ _, by show Adm d rx.2.2.2.2.2 ∧ _; rw [y6]; exact ⟨adm_rf _, by omega, by omega⟩, kp_wd kz (by decide), ⟨0, Nat.zero_le _, by show cI (sI c11 1 B 0) 1 B = nI 0; rw [cI_same]; rfl, x4⟩, ?_, fun i r q => Or.inl q⟩
      show RRx rx.2.2.1 (sI c11 1 B 0) rm.2 rx.2.2.2.2.1 rx.2.2.2.2.2 B B2
      rw [y4, y5, y6]
      refine ⟨N, hN, by rw [cI_sI, if_neg (fun z => absurd z.1 (by decide))]; exact hN1, by rw [(kz 2 (by decide)).1]; exact hN2, fun i hi => ?_⟩
      obtain ⟨r, p1, p2, n, nc, bb, ee, q1, q2, q3, q4, q5, q6, q7, q8⟩ := hR i hi
      refine ⟨r, p1, p2, n, nc, bb, ee, q1, q2, q3, q4, q5, by rw [row6 _ (by omega)]; exact q6, fun k hk => by rw [row3 _ (by omega)]; exact q7 k hk, fun c hc => ?_⟩
      obtain ⟨a1, a2, a3, a4, a5, a6, a7, a8, a9, a10, a11⟩ := q8 c hc
      exact ⟨a1, a2, a3, a4, a5, by rw [row5 _ (by omega)]; exact a6, by rw [row5 _ (by omega)]; exact a7, by rw [row5 _ (by omega)]; exact a8, by rw [row5 _ (by omega)]; exact a9, a10, a11⟩
  · have e6 : N = 6 := by omega
    have hx : F_126 c3 c4 c5 c11 c13 d B = some (-1, c3, c4, c5, c11, c13, d) := by
      unfold F_126
      rw [hN1, e6]
      exact in_neg (by decide) rfl
    have hmm : F_211 c12 B2 = some (-1, c12) := by
      unfold F_211
      rw [hN2, e6]
      exact in_pos rfl rfl
    exact ⟨_, _, hx, hmm, rfl, ⟨kp_rf _ _, oth_rf _ _⟩, oth_rf _ _, ⟨kp_rf _ _, oth_rf _ _⟩, ⟨kp_rf _ _, oth_rf _ _⟩, ofa_rf _ _ _, ⟨adm_rf _, by show aX d ≤ aX d + 5; omega, by show aS d ≤ aS d + 500; omega⟩, kp_rf _ _, ⟨l, Nat.le_refl _, t1, t2⟩, h, fun i r q => Or.inl q⟩
end QRule
