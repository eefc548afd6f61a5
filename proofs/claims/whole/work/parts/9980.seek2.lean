/-! ===== gather: the class, whole ===== -/
def bel (S : Nat → Int32) (R D H k : Nat) (σ : Bq) : Nat → Bq
  | 0 => σ
  | i + 1 => brow S R D H k (nbf S H i) (bel S R D H k σ i) R
section Seek2
variable {c1 c6 c7 c8 c13 : Cl} {d : Ad} {sc sr st : Nat} {S : Nat → Int32} {R D H Q M L E : Nat} {K : Nat → Nat}
theorem bel_ex {k : Nat} {σ : Bq} : ∀ n, n ≤ H → bel S R D H k σ (lc S n) = bex S R D H k σ n
  | 0, _ => rfl
  | n + 1, hn => by
    have ih := bel_ex (k := k) (σ := σ) n (by omega)
    show _ = if lv S n = 0 then bex S R D H k σ n else brow S R D H k n (bex S R D H k σ n) R
    by_cases w : lv S n = 0
    · rw [lc_d w, if_pos w]; exact ih
    · rw [lc_s w, if_neg w]
      show brow S R D H k (nbf S H (lc S n)) (bel S R D H k σ (lc S n)) R = _
      rw [nbf_lc (by omega) w, ih]
theorem bel_n {k i : Nat} {σ : Bq} (hi : i < lc S H) : bel S R D H k σ i = bex S R D H k σ (nbf S H i) := by
  obtain ⟨b1, b2, b3⟩ := nbf_ok hi
  have := bel_ex (S := S) (R := R) (D := D) (H := H) (k := k) (σ := σ) (nbf S H i) (by omega)
  rw [b3] at this
  exact this
/-- one is found, at a going from the situation at k -/
def FD (S : Nat → Int32) (R D H rm x k h r : Nat) (σ τ : Bq) : Prop := h < H ∧ ¬ lv S h = 0 ∧ r < R ∧ τ = brow S R D H k h (bex S R D H k σ h) r ∧ ¬ cx S H D (qs S R H (bu σ k)) h r = 0 ∧ bfr τ (tg S R H (bu σ k) h r) = 0 ∧ laN S H (qs S R H (tg S R H (bu σ k) h r)) rm = x
def NoS (S : Nat → Int32) (R H rm x : Nat) (τ : Bq) : Prop := ∀ j, j < bn τ → laN S H (qs S R H (bu τ j)) rm ≠ x
/-- the class's rows for what has come -/
def CB (c13 : Cl) (P Pq Z : Nat) (S : Nat → Int32) (R H : Nat) (σ : Bq) : Prop := AQ c13 P Pq (R ^ lc S H) Z (mkf S σ) (bn σ) (bu σ)
def P77 (c6 c7 c13 : Cl) (sr sc P Pq Z : Nat) (S : Nat → Int32) (R D H rm x k : Nat) (σ : Bq) (q : Int32 × Cl × Cl × Cl) : Prop := Kp [10, 11] c6 q.2.1 ∧ Oth sc c6 q.2.1 ∧ Ota [P, Pq] c13 q.2.2.2 ∧ ((q.2.2.1 = c7 ∧ q.1 = nI (bn (bex S R D H k σ H)) ∧ CB q.2.2.2 P Pq Z S R H (bex S R D H k σ H) ∧ NoS S R H rm x (bex S R D H k σ H)) ∨ (∃ h r τ, FD S R D H rm x k h r σ τ ∧ q.1 = nI (bn τ) ∧ CB q.2.2.2 P Pq Z S R H τ ∧ NoS S R H rm x τ ∧ Kp [8, 9, 10] c7 q.2.2.1 ∧ Oth sr c7 q.2.2.1 ∧ cI q.2.2.1 8 sr = nI (bfr σ (bu σ k)) ∧ cI q.2.2.1 9 sr = nI (bg1 τ k h r / 6) ∧ cI q.2.2.1 10 sr = nI (bg1 τ k h r % 6)))
def Sk (c6 c7 : Cl) (d : Ad) (sr sc P Pq Z : Nat) (rm x N : Nat) : Prop := cR c7 0 sr = sc ∧ cR c6 12 sc = P ∧ cR c6 14 sc = Pq ∧ aN d P = Z ∧ aN d Pq = Z ∧ N ≤ Z ∧ Z ≤ 46656 ∧ cI c7 11 sr = nI rm ∧ cI c7 12 sr = nI x ∧ x < 100
theorem gl_77b {c6z : Cl} {P Pq Z rm x k i : Nat} {σ : Bq} (hS : SR c1 c8 st S R D H Q M L E K) (hR0 : 0 < R) (hC : SC c6 sc S R D H Q) (hA : AT c6 sc S R H (qs S R H (bu σ k))) (hs : Sk c6 c7 d sr sc P Pq Z rm x (R ^ lc S H)) (hrm : rm < R) (k6 : Kp [10, 11] c6z c6) (o6 : Oth sc c6z c6) (hi : BI S R H σ (kev σ k 0 0)) (hk : k < bn σ) (hil : i < lc S H) (ks : ∀ c', Ota [P, Pq] c13 c' → CB c' P Pq Z S R H (bel S R D H k σ (i + 1)) → NoS S R H rm x (bel S R D H k σ (i + 1)) → Rn (G_77 c6 c7 d sr 0 [nI (bu σ k), nI (bfr σ (bu σ k)), nI (bn (bel S R D H k σ (i + 1))), nI (i + 1)] [] [] c') (P77 c6z c7 c13 sr sc P Pq Z S R D H rm x k σ)) : ∀ (m r : Nat) (c' : Cl), r + m = R → Ota [P, Pq] c13 c' → CB c' P Pq Z S R H (brow S R D H k (nbf S H i) (bel S R D H k σ i) r) → NoS S R H rm x (brow S R D H k (nbf S H i) (bel S R D H k σ i) r) → Rn (G_77 c6 c7 d sr 1 [nI (bu σ k), nI (bfr σ (bu σ k)), nI (bn (brow S R D H k (nbf S H i) (bel S R D H k σ i) r)), nI i, nI r] [] [] c') (P77 c6z c7 c13 sr sc P Pq Z S R D H rm x k σ)
  | 0, r, c', hr, hO, h1, h2 => by
    have : r = R := by omega
    subst this
    have r6 := hS.1.1.1.2.2
    rw [G_77, hs.1, hC.1]
    refine rn_p (nI_le (Nat.le_refl _) (by omega)) ?_
    rw [nI_1]
    exact ks c' hO h1 h2
  | m + 1, r, c', hr, hO, h1, h2 => by
    obtain ⟨⟨-, -, r6⟩, -, ⟨-, -, h6⟩, -⟩ := id hS.1.1
    have ll := lc_le S H
    have sz := pow_sz (S := S) r6 h6
    obtain ⟨e7, e12, e14, n1, n2, hN, hZ, e11, ex, x100⟩ := id hs
    obtain ⟨b1, b2, b3⟩ := nbf_ok hil
    have bx := bex_ok (D := D) hR0 r6 h6 hi hk (nbf S H i) (by omega)
    have bl := bel_n (S := S) (R := R) (D := D) (k := k) (σ := σ) hil
    have ke := (bx_g (h := nbf S H i) (r := 0) bx.2 hk).2
    have bo := brow_ok (D := D) hR0 r6 h6 (by rw [ke]; exact bx.1) (Nat.lt_of_lt_of_le hk bx.2.1) b1 b2 r (by omega)
    obtain ⟨τ, eτ⟩ : ∃ τ, τ = brow S R D H k (nbf S H i) (bel S R D H k σ i) r := ⟨_, rfl⟩
    have eτ' : τ = brow S R D H k (nbf S H i) (bex S R D H k σ (nbf S H i)) r := by rw [eτ, bl]
    rw [← eτ] at h1 h2 ⊢
    rw [← eτ'] at bo
    have bxx := bx_tr bx.2 bo.2
    have sk : bu τ k = bu σ k := bxx.2.1 k hk
    have kτ : k < bn τ := Nat.lt_of_lt_of_le hk bxx.1
    have nx : brow S R D H k (nbf S H i) (bel S R D H k σ i) (r + 1) = st1 S R D H k (nbf S H i) r τ := by rw [eτ]; rfl
    have go : ∀ c'', Ota [P, Pq] c13 c'' → CB c'' P Pq Z S R H (st1 S R D H k (nbf S H i) r τ) → NoS S R H rm x (st1 S R D H k (nbf S H i) r τ) → Rn (G_77 c6 c7 d sr 1 [nI (bu σ k), nI (bfr σ (bu σ k)), nI (bn (st1 S R D H k (nbf S H i) r τ)), nI i, nI r + 1] [] [] c'') (P77 c6z c7 c13 sr sc P Pq Z S R D H rm x k σ) := fun c'' k1 k2 k3 => by
      rw [nI_1]
      have g := gl_77b hS hR0 hC hA hs hrm k6 o6 hi hk hil ks m (r + 1) c'' (by omega) k1 (by rw [nx]; exact k2) (by rw [nx]; exact k3)
      rw [nx] at g
      exact g
    have nN := uq_n bo.1.1
    have su := bo.1.1.1 k kτ
    have fsτ : bfr τ (bu σ k) = bfr σ (bu σ k) := (bxx.2.2 k hk).1
    have fs1 := (bo.1.2.2.1 k kτ).1
    rw [sk] at su fs1
    obtain ⟨s, es⟩ : ∃ s, s = bu σ k := ⟨_, rfl⟩
    obtain ⟨t, et⟩ : ∃ t, t = tg S R H s (nbf S H i) r := ⟨_, rfl⟩
    have tl : t < R ^ lc S H := by rw [et]; exact tg_lt hR0 (by omega)
    have tc := tg_c (S := S) (r := r) (s := s) hR0 (by rw [es]; exact su.1) b1 b2
    rw [b3, ← et] at tc
    have e10 : ald (cA c6 10 sc) 6 (nI i) = some (nI (qs S R H s (nbf S H i))) := (ald_ok (by omega) (by decide)).trans (by rw [hA.1 i hil, es])
    have e6 : ald (cA c6 6 sc) 6 (nI i) = some (nI (R ^ (lc S H - 1 - i))) := (ald_ok (by omega) (by decide)).trans (by rw [(hC.2.2.2.1 i hil).2.2])
    have x60 := f_60 (q := qs S R H (bu σ k)) (i := i) (r := r) r6 h6 hil (by omega) (qs_ok hR0 _ _ b1 b2) hC hA
    have x78 := f_78 (c6 := c6) (c7 := c7) (s := bu σ k) (i := i) (r := r) hS hR0 hC hA e7 e11 ex hrm x100 hil (by omega)
    rw [← es] at x60 x78 go sk su fsτ fs1 ⊢
    rw [← et] at x78
    have fp : 0 < bfr τ s := Nat.pos_of_ne_zero su.2
    rw [G_77, e7, e12, n1, hC.1]
    refine rn_n (nI_ge (by omega) (by omega)) (rn_e e10 (rn_e e6 (rn_e x60 ?_)))
    by_cases w : cx S H D (qs S R H s) (nbf S H i) r = 0
    · have e1 : st1 S R D H k (nbf S H i) r τ = τ := by unfold st1; rw [sk, if_pos w]
      rw [e1] at go
      exact rn_p w (go c' hO h1 h2)
    refine rn_n w ?_
    rw [tc]
    refine rn_e (f_309 e12 n1 (show t < Z by omega) (by omega)) ?_
    rw [h1.1 t tl]
    have mb : mkf S τ t < 2 ^ 60 := by
      unfold mkf
      by_cases y : bfr τ t = 0
      · rw [if_pos y]; decide
      · rw [if_neg y]
        obtain ⟨j, hj, ej⟩ := bo.1.1.2.2 t tl y
        by_cases y1 : bfr τ t = 1
        · rw [if_pos y1]; decide
        · rw [if_neg y1]
          have j0 : 0 < j := Nat.pos_of_ne_zero fun e => y1 (by rw [← ej, e]; exact bo.1.2.1.2.2)
          have g2 := bo.1.2.2.2.1 j j0 hj
          rw [ej] at g2
          have := lc_le S (bb τ t / 6)
          have := Nat.mod_lt (bb τ t) (show 0 < 6 by decide)
          omega
    by_cases y : bfr τ t = 0
    · have m0 : mkf S τ t = 0 := mkf_0.mpr y
      refine rn_p (if_pos (by rw [m0]; rfl)) ?_
      have nlt := uq_lt bo.1.1 tl y
      have gk : bg1 τ k (nbf S H i) r < 64 ∧ bg1 τ k (nbf S H i) r / 6 < H ∧ ¬ lv S (bg1 τ k (nbf S H i) r / 6) = 0 ∧ bg1 τ k (nbf S H i) r % 6 < R := by
        unfold bg1
        rw [sk]
        by_cases z : bfr τ s = 1
        · rw [if_pos z]
          have q1 : (6 * nbf S H i + r) / 6 = nbf S H i := by omega
          have q2 : (6 * nbf S H i + r) % 6 = r := by omega
          rw [q1, q2]; exact ⟨by omega, b1, b2, by omega⟩
        · rw [if_neg z]
          have k0 : 0 < k := Nat.pos_of_ne_zero fun e => z (by rw [← sk, e]; exact bo.1.2.1.2.2)
          have g2 := bo.1.2.2.2.1 k k0 kτ
          have g3 := (bo.1.2.2.1 k kτ).2
          rw [sk] at g2 g3
          exact ⟨g3, g2.2⟩
      have mark : ((if nI (bfr σ s) = 1 then some (((2 + (nI i * 6)) + nI r : Int32).toInt64) else ldl (cB c' 0 P) Z (nI s) >>= fun v23 => some v23) : Option Int64) = some (lN (2 + 6 * lc S (bg1 τ k (nbf S H i) r / 6) + bg1 τ k (nbf S H i) r % 6)) := by
        rw [← fsτ]
        unfold bg1
        rw [sk]
        by_cases z : bfr τ s = 1
        · rw [if_pos z, z]
          refine in_pos rfl ?_
          have q1 : (6 * nbf S H i + r) / 6 = nbf S H i := by omega
          have q2 : (6 * nbf S H i + r) % 6 = r := by omega
          rw [q1, q2, b3, show nI i * (6 : Int32) = nI (i * 6) from pk_mul i 6, show (2 : Int32) + nI (i * 6) = nI (2 + i * 6) from nI_add 2 _, nI_add, nI_l (by omega), Nat.mul_comm]
        · rw [if_neg z]
          refine in_neg (fun e => z ((nI_eq (b := 1) (by omega) (by decide)).mp e)) (ob_mk ((ldl_ok (by omega) (by omega)).trans (by rw [h1.1 s su.1])) ?_)
          congr 2
          unfold mkf
          rw [if_neg su.2, if_neg z]
      refine rn_e mark (rn_e x78 ?_)
      by_cases v : laN S H (qs S R H t) rm = x
      · rw [if_pos v]
        refine rn_n (by decide) (rn_b (f_79 (c7 := c7) (sr := sr) (lvl := bfr σ s) hC e7 h6 gk.1 gk.2.1 gk.2.2.1) (fun r21 ⟨g1, g2, g3, g4, g5⟩ => rn_r ⟨k6, o6, hO, Or.inr ⟨nbf S H i, r, τ, ⟨b1, b2, by omega, eτ', by rw [← es]; exact w, by rw [← es, ← et]; exact y, by rw [← es, ← et]; exact v⟩, rfl, h1, h2, g1, g2, by rw [← es]; exact g3, g4, g5⟩⟩))
      · rw [if_neg v]
        have e1 : st1 S R D H k (nbf S H i) r τ = (bn τ + 1, un (bu τ) (bn τ) t, un (bfr τ) t (bfr τ s + 1), un (bb τ) t (bg1 τ k (nbf S H i) r)) := by unfold st1; rw [sk, if_neg w, ← et, if_pos y]
        refine rn_p rfl (rn_e (f_307 e12 e14 n1 n2 (show t < Z by omega) (show bn τ < Z by omega) (by omega)) ?_)
        have e2 : nI (bn τ + 1) = nI (bn (st1 S R D H k (nbf S H i) r τ)) := (congrArg (fun z => nI (bn z)) e1).symm
        dsimp only
        rw [e2]
        refine go _ (ota_tr hO (ota_tr (ota_o oth_B (by simp)) (ota_o oth_A (by simp)))) ?_ ?_
        · rw [e1]
          unfold CB
          refine aq_app h1 tl m0 (v := 2 + 6 * lc S (bg1 τ k (nbf S H i) r / 6) + bg1 τ k (nbf S H i) r % 6) (by omega) (fun s' hs' => ?_) (fun j hj => un_n (by omega)) un_s ?_ ?_
          · show (if un (bfr τ) t (bfr τ s + 1) s' = 0 then 0 else if un (bfr τ) t (bfr τ s + 1) s' = 1 then 1 else 2 + 6 * lc S (un (bb τ) t (bg1 τ k (nbf S H i) r) s' / 6) + un (bb τ) t (bg1 τ k (nbf S H i) r) s' % 6) = _
            by_cases z : s' = t
            · rw [z, un_s, un_s, if_neg (by omega), if_neg (by omega), if_pos rfl]
            · rw [un_n z, un_n z, if_neg z]; rfl
          · rw [cB_sA, cB_same]
          · rw [cA_same]
        · rw [e1]
          intro j hj
          have hj' : j < bn τ + 1 := hj
          show laN S H (qs S R H (un (bu τ) (bn τ) t j)) rm ≠ x
          by_cases z : j = bn τ
          · rw [z, un_s]; exact v
          · rw [un_n z]; exact h2 j (by omega)
    · have e1 : st1 S R D H k (nbf S H i) r τ = τ := by unfold st1; rw [sk, if_neg w, ← et, if_neg y]
      rw [e1] at go
      exact rn_n (by rw [if_neg (fun z => y (mkf_0.mp ((lN_z mb).mp z)))]; decide) (go c' hO h1 h2)
theorem gl_77a {c6z : Cl} {P Pq Z rm x k : Nat} {σ : Bq} (hS : SR c1 c8 st S R D H Q M L E K) (hR0 : 0 < R) (hC : SC c6 sc S R D H Q) (hA : AT c6 sc S R H (qs S R H (bu σ k))) (hs : Sk c6 c7 d sr sc P Pq Z rm x (R ^ lc S H)) (hrm : rm < R) (k6 : Kp [10, 11] c6z c6) (o6 : Oth sc c6z c6) (hi : BI S R H σ (kev σ k 0 0)) (hk : k < bn σ) : ∀ (m i : Nat) (c' : Cl), i + m = lc S H → Ota [P, Pq] c13 c' → CB c' P Pq Z S R H (bel S R D H k σ i) → NoS S R H rm x (bel S R D H k σ i) → Rn (G_77 c6 c7 d sr 0 [nI (bu σ k), nI (bfr σ (bu σ k)), nI (bn (bel S R D H k σ i)), nI i] [] [] c') (P77 c6z c7 c13 sr sc P Pq Z S R D H rm x k σ)
  | 0, i, c', hi', hO, h1, h2 => by
    have : i = lc S H := by omega
    subst this
    have ll := lc_le S H
    have h6 := hS.1.1.2.2.1.2.2
    rw [bel_ex H (Nat.le_refl _)] at h1 h2 ⊢
    rw [G_77, hs.1, hC.2.1]
    exact rn_p (nI_le (Nat.le_refl _) (by omega)) (rn_r ⟨k6, o6, hO, Or.inl ⟨rfl, rfl, h1, h2⟩⟩)
  | m + 1, i, c', hi', hO, h1, h2 => by
    have ll := lc_le S H
    have h6 := hS.1.1.2.2.1.2.2
    rw [G_77, hs.1, hC.2.1]
    refine rn_n (nI_ge (by omega) (by omega)) ?_
    exact gl_77b (c13 := c13) hS hR0 hC hA hs hrm k6 o6 hi hk (show i < lc S H by omega) (fun c'' g1 g2 g3 => gl_77a hS hR0 hC hA hs hrm k6 o6 hi hk m (i + 1) c'' (by omega) g1 g2 g3) R 0 c' (by omega) hO h1 h2
theorem sk_k {c6' : Cl} {P Pq Z rm x N : Nat} (h : Sk c6 c7 d sr sc P Pq Z rm x N) (hK : Kp [10, 11] c6 c6') : Sk c6' c7 d sr sc P Pq Z rm x N := by
  obtain ⟨a, b, e, g⟩ := h
  exact ⟨a, by rw [(hK 12 (by decide)).2.2.1]; exact b, by rw [(hK 14 (by decide)).2.2.1]; exact e, g⟩
theorem f_77 {P Pq Z rm x k : Nat} {σ : Bq} (hS : SR c1 c8 st S R D H Q M L E K) (hR0 : 0 < R) (hC : SC c6 sc S R D H Q) (hs : Sk c6 c7 d sr sc P Pq Z rm x (R ^ lc S H)) (hrm : rm < R) (hi : BI S R H σ (kev σ k 0 0)) (hk : k < bn σ) (h1 : CB c13 P Pq Z S R H σ) (h2 : NoS S R H rm x σ) : Rn (F_77 c6 c7 c13 d sr (nI (bu σ k)) (nI (bfr σ (bu σ k))) (nI (bn σ))) (P77 c6 c7 c13 sr sc P Pq Z S R D H rm x k σ) := by
  obtain ⟨⟨-, -, r6⟩, -, ⟨-, -, h6⟩, -⟩ := id hS.1.1
  unfold F_77
  rw [hs.1]
  have uf := unf_ok (c6 := c6) (sc := sc) (q := qs S R H (bu σ k)) r6 h6 (qs_ok hR0 (bu σ k)) hC
  have e : cd R (fun j => qs S R H (bu σ k) (nbf S H j)) (lc S H) = bu σ k := kc_qs hR0 (hi.1.1 k hk).1
  rw [e] at uf
  refine rn_b uf (fun c6a ⟨k1, o1, a1⟩ => ?_)
  exact gl_77a (c13 := c13) (c6z := c6) (c6 := c6a) hS hR0 (SC_k k1 (by decide) hC) a1 (sk_k hs k1) hrm k1 o1 hi hk (lc S H) 0 c13 (by omega) (ota_rf _ _) h1 h2
end Seek2
