/-! ===== texts: the class's reader ===== -/
/-- the piece behind one -/
def skp (u : Nat → Nat) (l p : Nat) : Nat := if p < l then sk u l (nxt u l p) else p
/-- the reader stands at the piece at a place -/
def RD (c3 : Cl) (rd : Nat) (u : Nat → Nat) (l p : Nat) : Prop := ∃ N P k, N ≤ 400 ∧ Rws c3 rd u l (N + 1) P ∧ (∀ j, j < N → P j < l ∧ P (j + 1) = sk u l (nxt u l (P j))) ∧ P N = l ∧ k ≤ N ∧ cI c3 6 rd = nI k ∧ P k = p
section Reader
variable {c3 c11 : Cl} {rd : Nat} {u : Nat → Nat} {l p : Nat}
theorem RD_k {c' : Cl} (h : RD c3 rd u l p) (e2 : cA c' 2 rd = cA c3 2 rd) (e3 : cA c' 3 rd = cA c3 3 rd) (e4 : cA c' 4 rd = cA c3 4 rd) (e5 : cI c' 5 rd = cI c3 5 rd) (e6 : cI c' 6 rd = cI c3 6 rd) : RD c' rd u l p := by
  obtain ⟨N, P, k, h1, h2, h3, h4, h5, h6, h7⟩ := h
  exact ⟨N, P, k, h1, ⟨by rw [e5]; exact h2.1, fun j hj => by rw [e2, e3, e4]; exact h2.2 j hj⟩, h3, h4, h5, by rw [e6]; exact h6, h7⟩
theorem RD_7 {c' : Cl} (k : Kp [7] c3 c') (h : RD c3 rd u l p) : RD c' rd u l p := RD_k h (by rw [(k 2 (by decide)).2.2.2.1]) (by rw [(k 3 (by decide)).2.2.2.1]) (by rw [(k 4 (by decide)).2.2.2.1]) (by rw [(k 5 (by decide)).1]) (by rw [(k 6 (by decide)).1])
theorem RD_le (h : RD c3 rd u l p) : p ≤ l := by
  obtain ⟨N, P, k, h1, h2, h3, h4, h5, h6, h7⟩ := h
  rw [← h7]
  by_cases w : k = N
  · rw [w, h4]; exact Nat.le_refl _
  · exact Nat.le_of_lt (h3 k (by omega)).1
theorem kd_b (hu : ∀ j, u j < 256) : kd u l p < 356 := by
  unfold kd
  split
  · split
    · split <;> omega
    · split
      · rcases wk_lt (u := u) (p := p) (n := le u l p - p) with e | e <;> omega
      · split
        · split <;> omega
        · have := hu p; omega
  · omega
theorem gl_22 {cz : Cl} (hu : ∀ j, u j < 256) (l4 : l ≤ 400) (hT : ∀ j, j < l → cA c11 0 (cR cz 0 rd) j = bI (u j)) (e1 : cI cz 1 rd = nI l) (e6 : cI cz 6 rd = 0) : ∀ (m q i N : Nat) (P : Nat → Nat) (c' : Cl), l - q ≤ m → q ≤ l → i ≤ q → N ≤ i → Kp [2, 3, 4, 5] cz c' → Oth rd cz c' → Rws c' rd u l N P → (N = 0 → sk u l 0 = sk u l q) → (0 < N → P 0 = sk u l 0 ∧ sk u l (nxt u l (P (N - 1))) = sk u l q) → (∀ k, k < N → P k < l) → (∀ k, k + 1 < N → P (k + 1) = sk u l (nxt u l (P k))) → Rn (G_22 c11 rd 0 [nI q, nI i] [] [] c') (fun r => Kp [2, 3, 4, 5] cz r ∧ Oth rd cz r ∧ RD r rd u l (sk u l 0)) := fun m => by
  have fin : ∀ (q N : Nat) (P : Nat → Nat) (c' : Cl), q = l → N ≤ 400 → Kp [2, 3, 4, 5] cz c' → Oth rd cz c' → Rws c' rd u l N P → (N = 0 → sk u l 0 = sk u l q) → (0 < N → P 0 = sk u l 0 ∧ sk u l (nxt u l (P (N - 1))) = sk u l q) → (∀ k, k < N → P k < l) → (∀ k, k + 1 < N → P (k + 1) = sk u l (nxt u l (P k))) → Rn (G_22 c11 rd 1 [] [] [] c') (fun r => Kp [2, 3, 4, 5] cz r ∧ Oth rd cz r ∧ RD r rd u l (sk u l 0)) := fun q N P c' hq hN hK hO hR h0 h1 h2 h3 => by
    have skl : sk u l q = l := by rw [hq]; exact sk_id (fun z => absurd z (Nat.lt_irrefl _))
    rw [G_22, (hK 1 (by decide)).1, e1]
    refine rn_b (rws_app (p := l) hN hR (by unfold kd; rw [if_neg (Nat.lt_irrefl _)]; rfl) (by unfold nv; rw [if_neg (fun z => absurd z.1 (Nat.lt_irrefl _))]; rfl) rfl) (fun r ⟨k, o, h⟩ => rn_r ⟨kp_tr hK k, oth_tr hO o, N, un P N l, 0, hN, h, fun j hj => ?_, un_s, Nat.zero_le _, ?_, ?_⟩)
    · rw [un_n (by omega)]
      refine ⟨h2 j hj, ?_⟩
      by_cases w : j + 1 = N
      · rw [w, un_s]
        have := (h1 (by omega)).2
        rw [skl, show N - 1 = j by omega] at this
        exact this.symm
      · rw [un_n w]; exact h3 j (by omega)
    · rw [(k 6 (by decide)).1, (hK 6 (by decide)).1, e6]; rfl
    · by_cases w : N = 0
      · rw [w, un_s, h0 w, skl]
      · rw [un_n (by omega)]; exact (h1 (by omega)).1
  induction m with
  | zero =>
    intro q i N P c' hq hql hi hN hK hO hR h0 h1 h2 h3
    have hl := fin q N P c' (by omega) (by omega) hK hO hR h0 h1 h2 h3
    rw [G_22, (hK 1 (by decide)).1, e1]
    exact rn_i (fun _ => hl) (fun _ => rn_p (nI_le (by omega) (by omega)) hl)
  | succ m ih =>
    intro q i N P c' hq hql hi hN hK hO hR h0 h1 h2 h3
    by_cases ql : q < l
    · have e0 : cR c' 0 rd = cR cz 0 rd := by rw [(hK 0 (by decide)).2.2.1]
      rw [G_22, (hK 1 (by decide)).1, e1, e0]
      refine rn_n (show ¬ nI 400 ≤ nI i from nI_ge (by omega) (by decide)) (rn_n (nI_ge ql (by omega)) (rn_ld (by omega) (by decide) ?_))
      rw [hT q ql]
      by_cases w : u q = 32
      · refine rn_b (P := fun t => t = (nI (q + 1), c')) (rn_p ((bI_eq (hu q) (c := 32) (by decide)).mpr w) (rn_r (by rw [nI_1]))) (fun t ht => ?_)
        subst ht
        rw [nI_1]
        have es : sk u l q = sk u l (q + 1) := rr_s ql (decide_eq_true w)
        exact ih (q + 1) (i + 1) N P c' (by omega) (by omega) (by omega) (by omega) hK hO hR (fun z => (h0 z).trans es) (fun z => ⟨(h1 z).1, (h1 z).2.trans es⟩) h2 h3
      · have es : sk u l q = q := sk_id (fun _ => w)
        have hT' : ∀ j, j < l → cA c11 0 (cR c' 0 rd) j = bI (u j) := fun j hj => by rw [e0]; exact hT j hj
        refine rn_b (P := fun t => t.1 = nI (nxt u l q) ∧ Kp [2, 3, 4, 5] c' t.2 ∧ Oth rd c' t.2 ∧ Rws t.2 rd u l (N + 1) (un P N q)) (rn_n (fun z => w ((bI_eq (hu q) (c := 32) (by decide)).mp z)) (rn_b (f_23 hu l4 hT' (by rw [(hK 1 (by decide)).1]; exact e1) (by omega) hR ql) (fun t ht => rn_r ht))) (fun t ⟨t1, t2, t3, t4⟩ => ?_)
        have ng := nxt_gt (u := u) ql
        have nl := nxt_le (u := u) ql
        rw [t1, nI_1]
        refine ih (nxt u l q) (i + 1) (N + 1) (un P N q) t.2 (by omega) nl (by omega) (by omega) (kp_tr hK t2) (oth_tr hO t3) t4 (fun z => by omega) (fun _ => ⟨?_, ?_⟩) (fun k hk => ?_) (fun k hk => ?_)
        · by_cases z : N = 0
          · rw [z, un_s, h0 z, es]
          · rw [un_n (by omega)]; exact (h1 (by omega)).1
        · rw [show N + 1 - 1 = N by omega, un_s]
        · by_cases z : k = N
          · rw [z, un_s]; exact ql
          · rw [un_n z]; exact h2 k (by omega)
        · by_cases z : k + 1 = N
          · rw [z, un_s, un_n (by omega)]
            have := (h1 (by omega)).2
            rw [es, show N - 1 = k by omega] at this
            exact this.symm
          · rw [un_n z, un_n (by omega)]; exact h3 k (by omega)
    · have hl := fin q N P c' (by omega) (by omega) hK hO hR h0 h1 h2 h3
      rw [G_22, (hK 1 (by decide)).1, e1]
      exact rn_i (fun _ => hl) (fun _ => rn_p (nI_le (by omega) (by omega)) hl)
theorem f_22 (hu : ∀ j, u j < 256) (l4 : l ≤ 400) (hT : ∀ j, j < l → cA c11 0 (cR c3 0 rd) j = bI (u j)) : Rn (F_22 c3 c11 rd (nI l)) (fun r => Kp [1, 2, 3, 4, 5, 6, 7] c3 r ∧ Oth rd c3 r ∧ RD r rd u l (sk u l 0) ∧ cI r 7 rd = 0) := by
  have em : imin (nI l) 400 = nI l := by
    unfold imin
    exact if_pos (show nI l ≤ nI 400 from nI_le l4 (by decide))
  unfold F_22
  refine rn_s (rn_s (rn_s (rn_s ?_)))
  rw [em]
  obtain ⟨z, hz⟩ : ∃ z, z = sI (sI (sI (sI c3 1 rd (nI l)) 5 rd 0) 6 rd 0) 7 rd 0 := ⟨_, rfl⟩
  rw [← hz]
  have kz : Kp [1, 5, 6, 7] c3 z := by rw [hz]; exact kp_tr (kp_I (by decide)) (kp_tr (kp_I (by decide)) (kp_tr (kp_I (by decide)) (kp_I (by decide))))
  have oz : Oth rd c3 z := by rw [hz]; exact oth_tr oth_I (oth_tr oth_I (oth_tr oth_I oth_I))
  refine rn_m (gl_22 (cz := z) (c11 := c11) hu l4 (fun j hj => by rw [(kz 0 (by decide)).2.2.1]; exact hT j hj) (by rw [hz]; simp only [cI_sI, cI_sJ, cI_sR, cI_sA, cI_sB, cI_sQ, cR_sI, cR_sJ, cR_sR, cR_sA, cR_sB, cR_sQ, cA_sI, cA_sJ, cA_sR, cA_sA, cA_sB, cA_sQ, Nat.reduceEqDiff, false_and, and_false, and_true, true_and, if_false, if_true, and_self, ↓reduceIte]) (by rw [hz]; simp only [cI_sI, cI_sJ, cI_sR, cI_sA, cI_sB, cI_sQ, cR_sI, cR_sJ, cR_sR, cR_sA, cR_sB, cR_sQ, cA_sI, cA_sJ, cA_sR, cA_sA, cA_sB, cA_sQ, Nat.reduceEqDiff, false_and, and_false, and_true, true_and, if_false, if_true, and_self, ↓reduceIte]) l 0 0 0 (fun _ => 0) z (by omega) (Nat.zero_le _) (Nat.le_refl _) (Nat.le_refl _) (kp_rf _ _) (oth_rf _ _) ⟨by rw [hz]; simp only [cI_sI, cI_sJ, cI_sR, cI_sA, cI_sB, cI_sQ, cR_sI, cR_sJ, cR_sR, cR_sA, cR_sB, cR_sQ, cA_sI, cA_sJ, cA_sR, cA_sA, cA_sB, cA_sQ, Nat.reduceEqDiff, false_and, and_false, and_true, true_and, if_false, if_true, and_self, ↓reduceIte]; rfl, fun k hk => absurd hk (Nat.not_lt_zero _)⟩ (fun _ => rfl) (fun z => absurd z (Nat.lt_irrefl _)) (fun k hk => absurd hk (Nat.not_lt_zero _)) (fun k hk => absurd hk (Nat.not_lt_zero _))) (fun r ⟨k, o, h⟩ => ⟨kp_tr (kp_wd kz (by decide)) (kp_wd k (by decide)), oth_tr oz o, h, ?_⟩)
  rw [(k 7 (by decide)).1, hz]; simp only [cI_sI, cI_sJ, cI_sR, cI_sA, cI_sB, cI_sQ, cR_sI, cR_sJ, cR_sR, cR_sA, cR_sB, cR_sQ, cA_sI, cA_sJ, cA_sR, cA_sA, cA_sB, cA_sQ, Nat.reduceEqDiff, false_and, and_false, and_true, true_and, if_false, if_true, and_self, ↓reduceIte]
theorem f_29 (h : RD c3 rd u l p) : F_29 c3 rd = some (nI (kd u l p)) := by
  obtain ⟨N, P, k, h1, h2, h3, h4, h5, h6, h7⟩ := h
  unfold F_29
  rw [h6]
  exact ob_mk ((ald_ok (by omega) (by decide)).trans (by rw [(h2.2 k (by omega)).1, h7])) rfl
theorem a_kd (h : RD c3 rd u l p) : ald (cA c3 2 rd) 401 (cI c3 6 rd) = some (nI (kd u l p)) := by
  obtain ⟨N, P, k, h1, h2, h3, h4, h5, h6, h7⟩ := h
  rw [h6]
  exact (ald_ok (by omega) (by decide)).trans (by rw [(h2.2 k (by omega)).1, h7])
theorem a_nv (h : RD c3 rd u l p) : ald (cA c3 3 rd) 401 (cI c3 6 rd) = some (nI (nv u l p)) := by
  obtain ⟨N, P, k, h1, h2, h3, h4, h5, h6, h7⟩ := h
  rw [h6]
  exact (ald_ok (by omega) (by decide)).trans (by rw [(h2.2 k (by omega)).2.1, h7])
theorem a_pl (h : RD c3 rd u l p) : ald (cA c3 4 rd) 401 (cI c3 6 rd) = some (nI p) := by
  obtain ⟨N, P, k, h1, h2, h3, h4, h5, h6, h7⟩ := h
  rw [h6]
  exact (ald_ok (by omega) (by decide)).trans (by rw [(h2.2 k (by omega)).2.2, h7])
theorem f_30 (h : RD c3 rd u l p) : F_30 c3 rd = some (nI (nv u l p)) := by
  unfold F_30
  exact ob_mk (a_nv h) rfl
/-- a fault at a place -/
def flt (p w : Nat) : Nat := 1 + 8 * p + w
theorem f_28 {w : Nat} (h : RD c3 rd u l p) : Rn (F_28 c3 rd (nI w)) (fun r => Kp [7] c3 r ∧ Oth rd c3 r ∧ RD r rd u l p ∧ (cI c3 7 rd = 0 → cI r 7 rd = nI (flt p w)) ∧ (¬ cI c3 7 rd = 0 → cI r 7 rd = cI c3 7 rd)) := by
  unfold F_28
  by_cases z : cI c3 7 rd = 0
  · refine rn_b (P := fun r => r = sI c3 7 rd ((1 + 8 * nI p) + nI w)) (rn_p z (rn_e (a_pl h) (rn_s (rn_r rfl)))) (fun r hr => rn_r ?_)
    subst hr
    refine ⟨kp_I (by decide), oth_I, RD_7 (kp_I (by decide)) h, fun _ => ?_, fun y => absurd z y⟩
    rw [cI_same, show (8 : Int32) * nI p = nI (8 * p) from pk_mul 8 p, show (1 : Int32) + nI (8 * p) = nI (1 + 8 * p) from nI_add 1 _, nI_add]
    rfl
  · refine rn_b (P := fun r => r = c3) (rn_n z (rn_r rfl)) (fun r hr => rn_r ?_)
    subst hr
    exact ⟨kp_rf _ _, oth_rf _ _, h, fun y => absurd y z, fun _ => rfl⟩
theorem f_31 (h : RD c3 rd u l p) : Rn (F_31 c3 rd) (fun r => Kp [6] c3 r ∧ Oth rd c3 r ∧ RD r rd u l (skp u l p)) := by
  obtain ⟨N, P, k, h1, h2, h3, h4, h5, h6, h7⟩ := id h
  unfold F_31
  rw [h2.1, h6, nI_pred]
  by_cases w : N ≤ k
  · have : k = N := by omega
    subst this
    refine rn_b (P := fun r => r = c3) (rn_p (nI_le w (by omega)) (rn_r rfl)) (fun r hr => rn_r ?_)
    subst hr
    refine ⟨kp_rf _ _, oth_rf _ _, ?_⟩
    unfold skp
    rw [if_neg (by rw [← h7, h4]; exact Nat.lt_irrefl _)]
    exact h
  · refine rn_b (P := fun r => r = sI c3 6 rd (nI k + 1)) (rn_n (nI_ge (by omega) (by omega)) (rn_s (rn_r rfl))) (fun r hr => rn_r ?_)
    subst hr
    obtain ⟨g1, g2⟩ := h3 k (by omega)
    refine ⟨kp_I (by decide), oth_I, N, P, k + 1, h1, h2, h3, h4, by omega, ?_, ?_⟩
    · rw [cI_same, nI_1]
    · unfold skp
      rw [if_pos (by rw [← h7]; exact g1), g2, h7]
theorem f_32 {w : Nat} (hu : ∀ j, u j < 256) (hw : w < 400) (h : RD c3 rd u l p) : Rn (F_32 c3 rd (nI w)) (fun r => Kp [6] c3 r.2 ∧ Oth rd c3 r.2 ∧ ((cI c3 7 rd = 0 ∧ kd u l p = w ∧ r.1 = 1 ∧ RD r.2 rd u l (skp u l p)) ∨ (¬ (cI c3 7 rd = 0 ∧ kd u l p = w) ∧ r.1 = 0 ∧ r.2 = c3))) := by
  have kb := kd_b (l := l) (p := p) hu
  unfold F_32
  by_cases z : cI c3 7 rd = 0
  · refine rn_p z (rn_e (a_kd h) ?_)
    by_cases y : kd u l p = w
    · exact rn_p (by rw [y]) (rn_b (f_31 h) (fun r ⟨k, o, hr⟩ => rn_r ⟨k, o, Or.inl ⟨z, y, rfl, hr⟩⟩))
    · exact rn_n (fun x => y ((nI_eq (by omega) (by omega)).mp x)) (rn_r ⟨kp_rf _ _, oth_rf _ _, Or.inr ⟨fun x => y x.2, rfl, rfl⟩⟩)
  · exact rn_n z (rn_r ⟨kp_rf _ _, oth_rf _ _, Or.inr ⟨fun x => z x.1, rfl, rfl⟩⟩)
end Reader
