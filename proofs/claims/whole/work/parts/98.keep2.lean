/-! ===== what is told: the class looks ===== -/
theorem sh64 {a k : Nat} {D : Int64} (hD : (D.toBitVec.smod 64).toNat = k) (h : a < 2 ^ 62) : lN a >>> D = lN (a / 2 ^ k) := by
  have hd : a / 2 ^ k ≤ a := Nat.div_le_self _ _
  apply Int64.toInt_inj.mp
  have e : (lN a >>> D).toInt = (lN a).toInt >>> k := by
    rw [← hD]
    exact BitVec.toInt_sshiftRight ..
  rw [e, Int.shiftRight_eq_div_pow, pk_lT (by omega), pk_lT (by omega)]
  rfl
theorem sh8 : ∀ s : Fin 6, (((8 * nI s.val : Int32).toInt64 &&& 63).toBitVec.smod 64).toNat = 8 * s.val := by decide +kernel
theorem dgl_lt {b : Nat → Nat} : ∀ {n : Nat}, (∀ s, s < n → b s < 256) → sn (fun s => b s * 2 ^ (8 * s)) n < 2 ^ (8 * n)
  | 0, _ => by show 0 < 2 ^ 0; decide
  | n + 1, h => by
    have ih := dgl_lt (b := b) (n := n) (fun s q => h s (by omega))
    have hn := h n (by omega)
    show sn (fun s => b s * 2 ^ (8 * s)) n + b n * 2 ^ (8 * n) < 2 ^ (8 * (n + 1))
    rw [show 8 * (n + 1) = 8 * n + 8 by omega, Nat.pow_add]
    have e : (2 : Nat) ^ 8 = 256 := rfl
    have m : b n * 2 ^ (8 * n) ≤ 255 * 2 ^ (8 * n) := Nat.mul_le_mul_right _ (by omega)
    rw [e]
    omega
theorem dgl {b : Nat → Nat} {k : Nat} : ∀ {n : Nat}, (∀ s, s < n → b s < 256) → k < n → sn (fun s => b s * 2 ^ (8 * s)) n / 2 ^ (8 * k) % 256 = b k
  | 0, _, hk => absurd hk (Nat.not_lt_zero _)
  | n + 1, h, hk => by
    show (sn (fun s => b s * 2 ^ (8 * s)) n + b n * 2 ^ (8 * n)) / 2 ^ (8 * k) % 256 = b k
    by_cases w : k = n
    · subst w
      rw [Nat.add_mul_div_right _ _ (Nat.two_pow_pos _), Nat.div_eq_of_lt (dgl_lt (fun s q => h s (by omega))), Nat.zero_add, Nat.mod_eq_of_lt (h k (by omega))]
    · have ih := dgl (b := b) (k := k) (n := n) (fun s q => h s (by omega)) (by omega)
      have e : b n * 2 ^ (8 * n) = b n * 2 ^ (8 * (n - k - 1)) * 256 * 2 ^ (8 * k) := by
        rw [show 8 * n = 8 * (n - k - 1) + 8 + 8 * k by omega, Nat.pow_add, Nat.pow_add, show (2 : Nat) ^ 8 = 256 from rfl, Nat.mul_assoc (b n), Nat.mul_assoc (b n)]
      rw [e, Nat.add_mul_div_right _ _ (Nat.two_pow_pos _), Nat.add_mul_mod_self_right]
      exact ih
/-- counts of all senses in one number -/
def se (S : Nat → Int32) (H Q : Nat) (q : Nat → Nat) : Nat := sn (fun h => if lv S h = 0 then 0 else hv S h * wt S (q h) Q) H
theorem wt_sn (S : Nat → Int32) (r : Nat) : ∀ n, wt S r n = sn (fun s => if bit1 (S (88 + s)) (nI r) = 0 then 0 else 2 ^ (8 * s)) n
  | 0 => rfl
  | n + 1 => by show wt S r n + _ = sn _ n + _; rw [wt_sn S r n]
theorem se_lb {S : Nat → Int32} {H Q : Nat} {q : Nat → Nat} : se S H Q q = sn (fun s => lb S H q s * 2 ^ (8 * s)) Q := by
  have e : sn (fun s => lb S H q s * 2 ^ (8 * s)) Q = sn (fun s => sn (fun h => (if lv S h = 0 then 0 else if bit1 (S (88 + s)) (nI (q h)) = 0 then 0 else hv S h) * 2 ^ (8 * s)) H) Q := sn_cg fun s _ => (sn_mul _ _ _).symm
  rw [e, sn_sw]
  refine sn_cg fun h _ => ?_
  by_cases w : lv S h = 0
  · rw [if_pos w, sn_z fun s _ => by rw [if_pos w, Nat.zero_mul]]
  · rw [if_neg w, wt_sn, Nat.mul_comm, ← sn_mul]
    refine sn_cg fun s _ => ?_
    rw [if_neg w]
    by_cases u : bit1 (S (88 + s)) (nI (q h)) = 0
    · rw [if_pos u, if_pos u, Nat.zero_mul, Nat.zero_mul]
    · rw [if_neg u, if_neg u, Nat.mul_comm]
section Kf
variable {c1 c6 c7 c8 c10 c13 : Cl} {d : Ad} {sc sr st w : Nat} {S : Nat → Int32} {R D H Q M L E : Nat} {K : Nat → Nat}
theorem se_lt (hS : SR c1 c8 st S R D H Q M L E K) {q : Nat → Nat} : se S H Q q < 2 ^ 48 := by
  have q6 := hS.1.1.2.2.2.1.2.2
  rw [se_lb]
  exact Nat.lt_of_lt_of_le (dgl_lt (fun s _ => by have := lb_24 hS (q := q) (s := s); omega)) (Nat.pow_le_pow_right (by decide) (by omega))
theorem gl_58 {q : Nat → Nat} (hS : SR c1 c8 st S R D H Q M L E K) (hC : SC c6 sc S R D H Q) (hA : AT c6 sc S R H q) (hq : Qok S R H q) : ∀ m i, i + m = lc S H → G_58 c6 sc 0 [nI i] [lN (sn (fun i => hv S (nbf S H i) * wt S (q (nbf S H i)) Q) i)] [] = some (lN (se S H Q q))
  | 0, i, hi => by
    have : i = lc S H := by omega
    subst this
    have ll := lc_le S H
    have h6 := hS.1.1.2.2.1.2.2
    rw [G_58, hC.2.1]
    refine in_pos (nI_le (Nat.le_refl _) (by omega)) ?_
    rw [sn_lc (S := S) (f := fun h => hv S h * wt S (q h) Q) (H := H) (n := H) (Nat.le_refl _)]
    rfl
  | m + 1, i, hi => by
    have ih := gl_58 hS hC hA hq m (i + 1) (by omega)
    have ll := lc_le S H
    obtain ⟨⟨-, -, r6⟩, -, ⟨-, -, h6⟩, -⟩ := id hS.1.1
    obtain ⟨b1, b2, b3⟩ := nbf_ok (S := S) (n := H) (i := i) (by omega)
    obtain ⟨v1, v2, v3⟩ := hv_nI hS b1
    have ql := hq _ b1 b2
    rw [G_58, hC.2.1]
    refine in_neg (nI_ge (by omega) (by omega)) (ob_mk (v := nI (hv S (nbf S H i))) ((ald_ok (by omega) (by decide)).trans (by rw [(hC.2.2.2.1 i (by omega)).2.1, v1])) (ob_mk (v := nI (q (nbf S H i))) ((ald_ok (by omega) (by decide)).trans (by rw [hA.1 i (by omega)])) (ob_mk (v := lN (wt S (q (nbf S H i)) Q)) ((ldl_ok (by omega) (by decide)).trans (by rw [(hC.2.2.2.2 _ ql).2.2])) ?_)))
    rw [nI_l (by omega), lN_mul, lN_add, nI_1]
    exact ih
theorem f_58 {q : Nat → Nat} (hS : SR c1 c8 st S R D H Q M L E K) (hC : SC c6 sc S R D H Q) (hA : AT c6 sc S R H q) (hq : Qok S R H q) : F_58 c6 sc = some (lN (se S H Q q)) := by
  unfold F_58
  exact gl_58 hS hC hA hq (lc S H) 0 (by omega)
/-- what is told, in the class's rows -/
def TdC (c10 : Cl) (w : Nat) (S : Nat → Int32) (k : Nat) : Prop := ∀ i, i < k → cA c10 6 w i = S (184 + 3 * i) ∧ cA c10 7 w i = S (184 + 3 * i + 1) ∧ cA c10 8 w i = S (184 + 3 * i + 2)
theorem gl_70 {q : Nat → Nat} {m0 k : Nat} (hS : SR c1 c8 st S R D H Q M L E K) (k12 : k ≤ 12) (hT : TdR S Q k) (hc : TdC c10 w S k) : ∀ m i, i + m = k → atb S H m0 q i = true → G_70 c10 w 0 [nI k, nI m0, nI i] [lN (se S H Q q)] [] = some (if atb S H m0 q k = true then 1 else 0)
  | 0, i, hi, ha => by
    have : i = k := by omega
    subst this
    rw [G_70, if_pos ha]
    exact in_pos (nI_le (Nat.le_refl _) (by omega)) rfl
  | m + 1, i, hi, ha => by
    have ih := gl_70 (q := q) (m0 := m0) hS k12 hT hc m (i + 1) (by omega)
    obtain ⟨-, -, -, ⟨-, hQ, q6⟩, -⟩ := hS.1.1
    obtain ⟨-, ⟨s, hs, es⟩, v, hv, ev⟩ := hT i (by omega)
    obtain ⟨t1, t2, t3⟩ := hc i (by omega)
    have sc : (S (184 + 3 * i + 1)).toNatClampNeg = s := by rw [es, nI_clamp (by omega)]
    have sl := se_lt hS (q := q)
    have l24 := lb_24 hS (q := q) (s := s)
    have val : (lN (se S H Q q) >>> ((8 * nI s : Int32).toInt64 &&& 63)) &&& 255 = lN (lb S H q s) := by
      rw [sh64 (sh8 ⟨s, by omega⟩) (by omega)]
      have dv : se S H Q q / 2 ^ (8 * s) ≤ se S H Q q := Nat.div_le_self _ _
      have := wb_mask (n := se S H Q q / 2 ^ (8 * s)) (k := 8) (by omega) (by decide)
      refine Eq.trans this ?_
      congr 1
      rw [se_lb]
      exact dgl (fun s _ => by have := lb_24 hS (q := q) (s := s); omega) hs
    rw [G_70]
    refine in_neg (nI_ge (by omega) (by omega)) (ob_mk (v := S (184 + 3 * i)) ((ald_ok (by omega) (by decide)).trans (by rw [t1])) ?_)
    rw [nI_1]
    by_cases y : S (184 + 3 * i) = nI m0
    · refine in_pos y (ob_mk (v := nI s) ((ald_ok (by omega) (by decide)).trans (by rw [t2, es])) (ob_mk (v := nI v) ((ald_ok (by omega) (by decide)).trans (by rw [t3, ev])) ?_))
      rw [val, nI_l (show v < 2 ^ 31 by omega)]
      by_cases u : nI (lb S H q s) = S (184 + 3 * i + 2)
      · have u' : lb S H q s = v := (nI_eq (by omega) (by omega)).mp (by rw [u, ev])
        refine in_pos ((lg_cmp_eq _ _).mpr (by rw [u'])) (ih ?_)
        show (atb S H m0 q i && at1 S H m0 q i) = true
        unfold at1; rw [ha, sc, decide_eq_true u]; simp
      · refine in_neg (fun z => u ?_) ?_
        · rw [ev, (pk_lEQ (by omega) (by omega)).mp ((lg_cmp_eq _ _).mp z)]
        · have : atb S H m0 q (i + 1) = false := by
            show (atb S H m0 q i && at1 S H m0 q i) = false
            unfold at1; rw [ha, sc, decide_eq_false u]; simp [y]
          rw [atb_f (show i + 1 ≤ k by omega) this]; rfl
    · refine in_neg y (ih ?_)
      show (atb S H m0 q i && at1 S H m0 q i) = true
      unfold at1; rw [ha]; simp [y]
theorem f_70 {q : Nat → Nat} {m0 k : Nat} (hS : SR c1 c8 st S R D H Q M L E K) (k12 : k ≤ 12) (hT : TdR S Q k) (hc : TdC c10 w S k) : F_70 c10 w (nI k) (nI m0) (lN (se S H Q q)) = some (if atb S H m0 q k = true then 1 else 0) := by
  unfold F_70
  exact gl_70 hS k12 hT hc k 0 (by omega) rfl
/-- whether anything is told of a minute -/
theorem gl_69a {m0 k : Nat} {x4 : Int32} (k12 : k ≤ 12) (hc : TdC c10 w S k) : ∀ m i, i + m = k → G_69 c7 c10 d sr w 0 [nI k, nI m0, x4, (if anyb (fun i => decide (S (184 + 3 * i) = nI m0)) i = true then 1 else 0), nI i] [] [] c6 c13 = if anyb (fun i => decide (S (184 + 3 * i) = nI m0)) k = true then G_69 c7 c10 d sr w 1 [nI k, nI m0, x4, 0, 0] [] [] c6 c13 else some (x4, c6, c13)
  | 0, i, hi => by
    have : i = k := by omega
    subst this
    conv => lhs; rw [G_69]
    rw [if_pos (nI_le (Nat.le_refl _) (by omega))]
    by_cases y : anyb (fun i => decide (S (184 + 3 * i) = nI m0)) i = true
    · rw [if_pos y, if_pos y, if_neg (by decide)]
    · rw [if_neg y, if_neg y, if_pos rfl]
  | m + 1, i, hi => by
    have ih := gl_69a (x4 := x4) (m0 := m0) k12 hc m (i + 1) (by omega)
    rw [← ih]
    conv => lhs; rw [G_69]
    rw [if_neg (nI_ge (by omega) (by omega)), nI_1]
    refine ob_e (v := S (184 + 3 * i)) ((ald_ok (by omega) (by decide)).trans (by rw [(hc i (by omega)).1])) ?_
    show _ = G_69 c7 c10 d sr w 0 [nI k, nI m0, x4, (if (anyb (fun i => decide (S (184 + 3 * i) = nI m0)) i || decide (S (184 + 3 * i) = nI m0)) = true then 1 else 0), nI (i + 1)] [] [] c6 c13
    by_cases y : S (184 + 3 * i) = nI m0
    · refine ob_e (in_pos y rfl) ?_
      rw [decide_eq_true y, Bool.or_true, if_pos rfl]
      congr 5
      split <;> rfl
    · refine ob_e (in_neg y rfl) ?_
      rw [decide_eq_false y, Bool.or_false, Int32.or_zero]
theorem atb_no {q : Nat → Nat} {m0 : Nat} : ∀ {k : Nat}, anyb (fun i => decide (S (184 + 3 * i) = nI m0)) k = false → atb S H m0 q k = true
  | 0, _ => rfl
  | k + 1, h => by
    have h' : (anyb (fun i => decide (S (184 + 3 * i) = nI m0)) k || decide (S (184 + 3 * k) = nI m0)) = false := h
    rw [Bool.or_eq_false_iff] at h'
    show (atb S H m0 q k && at1 S H m0 q k) = true
    rw [atb_no h'.1]
    unfold at1
    have := of_decide_eq_false h'.2
    simp [this]
/-- those that are not as told go -/
theorem gl_69b {P Pq Z n m0 k : Nat} {f u : Nat → Nat} (hS : SR c1 c8 st S R D H Q M L E K) (hR0 : 0 < R) (k12 : k ≤ 12) (hT : TdR S Q k) (hc : TdC c10 w S k) (hC : SC c6 sc S R D H Q) (e7 : cR c7 0 sr = sc) (e12 : cR c6 12 sc = P) (e14 : cR c6 14 sc = Pq) (n1 : aN d P = Z) (n2 : aN d Pq = Z) (hN : R ^ lc S H ≤ Z) (hZ : Z ≤ 46656) (h : AQ c13 P Pq (R ^ lc S H) Z f n u) : ∀ (m i n' : Nat) (u' : Nat → Nat) (c6' c' : Cl), i + m = n → n' ≤ i → Kp [10, 11] c6 c6' → Oth sc c6 c6' → Ota [P, Pq] c13 c' → (∀ s, s < R ^ lc S H → cB c' 0 P s = lN (if anyb (fun j => decide (u j = s)) i = true then ft S R H k m0 f s else f s)) → (∀ s, R ^ lc S H ≤ s → s < Z → cB c' 0 P s = 0) → (∀ j, i ≤ j → j < n → cA c' 0 Pq j = nI (u j)) → (∀ j, j < n' → cA c' 0 Pq j = nI (u' j) ∧ (∃ j0, j0 < i ∧ u' j = u j0) ∧ atb S H m0 (qs S R H (u' j)) k = true) → (∀ a b, a < n' → b < n' → u' a = u' b → a = b) → (∀ j0, j0 < i → atb S H m0 (qs S R H (u j0)) k = true → ∃ j, j < n' ∧ u' j = u j0) → Rn (G_69 c7 c10 d sr w 1 [nI k, nI m0, nI n, nI n', nI i] [] [] c6' c') (fun r => Kp [10, 11] c6 r.2.1 ∧ Oth sc c6 r.2.1 ∧ Ota [P, Pq] c13 r.2.2 ∧ ∃ n' u', r.1 = nI n' ∧ AQ r.2.2 P Pq (R ^ lc S H) Z (ft S R H k m0 f) n' u')
  | 0, i, n', u', c6', c', hi, hni, hK, hO, hF, h1, h2, h3, h4, h5, h6 => by
    have : i = n := by omega
    subst this
    have nN := aq_n h
    rw [G_69]
    refine rn_p (nI_le (Nat.le_refl _) (by omega)) (rn_r ⟨hK, hO, hF, n', u', rfl, fun s hs => ?_, h2, fun j hj => ?_, h5, fun s hs z => ?_⟩)
    · dsimp only
      rw [h1 s hs]
      by_cases y : anyb (fun j => decide (u j = s)) i = true
      · rw [if_pos y]
      · rw [if_neg y]
        have : f s = 0 := Classical.byContradiction fun z => by
          obtain ⟨j, hj, ej⟩ := h.2.2.2.2 s hs z
          exact y (anyb_t.mpr ⟨j, hj, by simp [ej]⟩)
        unfold ft
        rw [this]
        split <;> rfl
    · obtain ⟨a, ⟨j0, b1, b2⟩, e⟩ := h4 j hj
      refine ⟨a, ?_, ?_⟩
      · rw [b2]; exact (h.2.2.1 j0 b1).2.1
      · unfold ft; rw [if_pos e, b2]; exact (h.2.2.1 j0 b1).2.2
    · unfold ft at z
      by_cases y : atb S H m0 (qs S R H s) k = true
      · rw [if_pos y] at z
        obtain ⟨j0, g1, g2⟩ := h.2.2.2.2 s hs z
        obtain ⟨j, g3, g4⟩ := h6 j0 g1 (by rw [g2]; exact y)
        exact ⟨j, g3, g4.trans g2⟩
      · rw [if_neg y] at z; exact absurd rfl z
  | m + 1, i, n', u', c6', c', hi, hni, hK, hO, hF, h1, h2, h3, h4, h5, h6 => by
    obtain ⟨⟨-, -, r6⟩, -, ⟨-, -, hh6⟩, -⟩ := id hS.1.1
    have nN := aq_n h
    obtain ⟨x1, x2, x3⟩ := h.2.2.1 i (by omega)
    have c12' : cR c6' 12 sc = P := by rw [(hK 12 (by decide)).2.2.1]; exact e12
    have c14' : cR c6' 14 sc = Pq := by rw [(hK 14 (by decide)).2.2.1]; exact e14
    have hC' := SC_k hK (by decide) hC
    rw [G_69, e7, c14', n2]
    refine rn_n (nI_ge (by omega) (by omega)) (rn_ld (by omega) (by omega) ?_)
    rw [h3 i (Nat.le_refl _) (by omega)]
    have uf := unf_ok (c6 := c6') (sc := sc) (q := qs S R H (u i)) r6 hh6 (qs_ok hR0 (u i)) hC'
    have e : cd R (fun j => qs S R H (u i) (nbf S H j)) (lc S H) = u i := kc_qs hR0 x2
    rw [e] at uf
    refine rn_b uf (fun c6a ⟨k1, o1, a1⟩ => ?_)
    refine rn_e (f_58 hS (SC_k k1 (by decide) hC') a1 (qs_ok hR0 (u i))) (rn_e (f_70 hS k12 hT hc) ?_)
    have kk : Kp [10, 11] c6 c6a := kp_tr hK k1
    have oo : Oth sc c6 c6a := oth_tr hO o1
    have c12a : cR c6a 12 sc = P := by rw [(kk 12 (by decide)).2.2.1]; exact e12
    have c14a : cR c6a 14 sc = Pq := by rw [(kk 14 (by decide)).2.2.1]; exact e14
    rw [c12a, c14a, n1, n2]
    have old : ∀ j, j < i → u j ≠ u i := fun j hj z => by have := h.2.2.2.1 j i (by omega) (by omega) z; omega
    have step : ∀ s, anyb (fun j => decide (u j = s)) (i + 1) = (anyb (fun j => decide (u j = s)) i || decide (u i = s)) := fun s => rfl
    by_cases y : atb S H m0 (qs S R H (u i)) k = true
    · rw [if_pos y]
      refine rn_e (in_neg (by decide) (ob_mk (ast_ok (show n' < Z by omega) (by omega)) rfl)) ?_
      dsimp only
      rw [nI_1, nI_1]
      refine gl_69b hS hR0 k12 hT hc hC e7 e12 e14 n1 n2 hN hZ h m (i + 1) (n' + 1) (fun j => if j = n' then u i else u' j) c6a _ (by omega) (by omega) kk oo (ota_tr hF (ota_o oth_A (by simp))) (fun s hs => ?_) (fun s q1 q2 => ?_) (fun j q1 q2 => ?_) (fun j hj => ?_) (fun a b ha hb z => ?_) (fun j0 hj0 z => ?_)
      · rw [cB_sA, h1 s hs, step]
        congr 1
        by_cases v : u i = s
        · have n0 : ¬ anyb (fun j => decide (u j = s)) i = true := fun z => by
            obtain ⟨j, hj, ej⟩ := anyb_t.mp z
            simp only [decide_eq_true_eq] at ej
            exact old j hj (by rw [ej, v])
          rw [if_neg n0, decide_eq_true v, Bool.or_true, if_pos rfl]
          unfold ft; rw [← v, if_pos y]
        · rw [decide_eq_false v, Bool.or_false]
      · rw [cB_sA]; exact h2 s q1 q2
      · rw [cA_same, pk_un (by omega)]; exact h3 j (by omega) q2
      · rw [cA_same]
        by_cases v : j = n'
        · subst v
          rw [pk_us, if_pos rfl]
          exact ⟨rfl, ⟨i, Nat.lt_succ_self _, rfl⟩, y⟩
        · rw [pk_un v, if_neg v]
          obtain ⟨a, ⟨j0, b1, b2⟩, e⟩ := h4 j (by omega)
          exact ⟨a, ⟨j0, by omega, b2⟩, e⟩
      · have nn : ∀ j, j < n' → u' j ≠ u i := fun j hj e => by
          obtain ⟨-, ⟨j0, b1, b2⟩, -⟩ := h4 j hj
          exact old j0 b1 (by rw [← b2]; exact e)
        by_cases v : a = n'
        · by_cases v2 : b = n'
          · omega
          · rw [if_pos v, if_neg v2] at z; exact absurd z.symm (nn b (by omega))
        · by_cases v2 : b = n'
          · rw [if_neg v, if_pos v2] at z; exact absurd z (nn a (by omega))
          · rw [if_neg v, if_neg v2] at z; exact h5 a b (by omega) (by omega) z
      · by_cases v : j0 = i
        · exact ⟨n', Nat.lt_succ_self _, by rw [if_pos rfl, v]⟩
        · obtain ⟨j, g3, g4⟩ := h6 j0 (by omega) z
          exact ⟨j, by omega, by rw [if_neg (by omega)]; exact g4⟩
    · rw [if_neg y]
      refine rn_e (in_pos rfl (ob_mk (stl_ok (show u i < Z by omega) (by omega)) rfl)) ?_
      dsimp only
      rw [nI_1]
      refine gl_69b hS hR0 k12 hT hc hC e7 e12 e14 n1 n2 hN hZ h m (i + 1) n' u' c6a _ (by omega) (by omega) kk oo (ota_tr hF (ota_o oth_B (by simp))) (fun s hs => ?_) (fun s q1 q2 => ?_) (fun j q1 q2 => ?_) (fun j hj => ?_) h5 (fun j0 hj0 z => ?_)
      · rw [cB_same, step]
        by_cases v : s = u i
        · rw [v, pk_uLs, decide_eq_true rfl, Bool.or_true, if_pos rfl]
          unfold ft; rw [if_neg y]; rfl
        · have v' : ¬ u i = s := fun z => v z.symm
          rw [pk_uLn v, decide_eq_false v', Bool.or_false]; exact h1 s hs
      · rw [cB_same, pk_uLn (by omega)]; exact h2 s q1 q2
      · rw [cA_sB]; exact h3 j (by omega) q2
      · rw [cA_sB]
        obtain ⟨a, ⟨j0, b1, b2⟩, e⟩ := h4 j hj
        exact ⟨a, ⟨j0, by omega, b2⟩, e⟩
      · by_cases v : j0 = i
        · rw [v] at z; exact absurd z y
        · exact h6 j0 (by omega) z
theorem f_69 {P Pq Z n m0 k : Nat} {f u : Nat → Nat} (hS : SR c1 c8 st S R D H Q M L E K) (hR0 : 0 < R) (k12 : k ≤ 12) (hT : TdR S Q k) (hc : TdC c10 w S k) (hC : SC c6 sc S R D H Q) (e7 : cR c7 0 sr = sc) (e12 : cR c6 12 sc = P) (e14 : cR c6 14 sc = Pq) (n1 : aN d P = Z) (n2 : aN d Pq = Z) (hN : R ^ lc S H ≤ Z) (hZ : Z ≤ 46656) (h : AQ c13 P Pq (R ^ lc S H) Z f n u) : Rn (F_69 c6 c7 c10 c13 d sr w (nI k) (nI m0) (nI n)) (fun r => Kp [10, 11] c6 r.2.1 ∧ Oth sc c6 r.2.1 ∧ Ota [P, Pq] c13 r.2.2 ∧ ∃ n' u', r.1 = nI n' ∧ AQ r.2.2 P Pq (R ^ lc S H) Z (ft S R H k m0 f) n' u') := by
  unfold F_69
  have a := gl_69a (c6 := c6) (c7 := c7) (c13 := c13) (d := d) (sr := sr) (m0 := m0) (x4 := nI n) k12 hc k 0 (by omega)
  have a' : G_69 c7 c10 d sr w 0 [nI k, nI m0, nI n, 0, 0] [] [] c6 c13 = _ := a
  rw [a']
  refine rn_i (fun _ => ?_) (fun y => rn_r ⟨kp_rf _ _, oth_rf _ _, ota_rf _ _, n, u, rfl, aq_cg h (fun s hs => ?_) rfl rfl⟩)
  · exact gl_69b hS hR0 k12 hT hc hC e7 e12 e14 n1 n2 hN hZ h n 0 0 (fun _ => 0) c6 c13 (by omega) (Nat.le_refl _) (kp_rf _ _) (oth_rf _ _) (ota_rf _ _) (fun s hs => h.1 s hs) h.2.1 (fun j _ hj => (h.2.2.1 j hj).1) (fun j hj => absurd hj (Nat.not_lt_zero _)) (fun a b ha => absurd ha (Nat.not_lt_zero _)) (fun j0 hj0 => absurd hj0 (Nat.not_lt_zero _))
  · have y' : anyb (fun i => decide (S (184 + 3 * i) = nI m0)) k = false := by
      cases e : anyb (fun i => decide (S (184 + 3 * i) = nI m0)) k with
      | false => rfl
      | true => exact absurd e y
    unfold ft
    rw [if_pos (atb_no y')]
end Kf
