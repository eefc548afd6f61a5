/-! ===== the scene of the class ===== -/
/-- what one half in a room adds to the counts of all senses -/
def wt (S : Nat → Int32) (r : Nat) : Nat → Nat
  | 0 => 0
  | s + 1 => wt S r s + (if bit1 (S (88 + s)) (nI r) = 0 then 0 else 2 ^ (8 * s))
/-- halves of the living in a room, as they are looked at -/
def la1 (S : Nat → Int32) (q : Nat → Nat) (x : Int32) (h : Nat) : Int32 := if nI (q h) = x then S (40 + 6 * h + 1) else 0
def la (S : Nat → Int32) (H : Nat) (q : Nat → Nat) (x : Int32) : Int32 := su (fun h => if lv S h = 0 then 0 else la1 S q x h) H
/-- rooms, living, their halves, powers, what rooms hold, links, weights -/
def SC (c6 : Cl) (sc : Nat) (S : Nat → Int32) (R D H Q : Nat) : Prop := cI c6 0 sc = nI R ∧ cI c6 1 sc = nI (lc S H) ∧ cI c6 2 sc = nI (R ^ lc S H) ∧ (∀ i, i < lc S H → cA c6 4 sc i = nI (nbf S H i) ∧ cA c6 5 sc i = S (40 + 6 * nbf S H i + 1) ∧ cA c6 6 sc i = nI (R ^ (lc S H - 1 - i))) ∧ (∀ r, r < R → cA c6 7 sc r = S (82 + r) ∧ cA c6 8 sc r = bs S (nI r) D ∧ cB c6 9 sc r = lN (wt S r Q))
/-- what is looked at -/
def AT (c6 : Cl) (sc : Nat) (S : Nat → Int32) (R H : Nat) (q : Nat → Nat) : Prop := (∀ i, i < lc S H → cA c6 10 sc i = nI (q (nbf S H i))) ∧ (∀ r, r < R → cA c6 11 sc r = la S H q (nI r))
theorem SC_k {c6 c6' : Cl} {sc : Nat} {S : Nat → Int32} {R D H Q : Nat} {Ks : List Nat} (hK : Kp Ks c6 c6') (hn : ∀ k, k ∈ Ks → k = 3 ∨ 10 ≤ k) (h : SC c6 sc S R D H Q) : SC c6' sc S R D H Q := by
  have g : ∀ k, k ≠ 3 → k < 10 → k ∉ Ks := fun k a b z => by rcases hn k z with e | e <;> omega
  unfold SC
  rw [(hK 0 (g 0 (by decide) (by decide))).1, (hK 1 (g 1 (by decide) (by decide))).1, (hK 2 (g 2 (by decide) (by decide))).1, (hK 4 (g 4 (by decide) (by decide))).2.2.2.1, (hK 5 (g 5 (by decide) (by decide))).2.2.2.1, (hK 6 (g 6 (by decide) (by decide))).2.2.2.1, (hK 7 (g 7 (by decide) (by decide))).2.2.2.1, (hK 8 (g 8 (by decide) (by decide))).2.2.2.1, (hK 9 (g 9 (by decide) (by decide))).2.2.2.2.1]
  exact h
/-- sums from the last on -/
def sdn (f : Nat → Int32) (n : Nat) : Nat → Int32
  | 0 => 0
  | k + 1 => sdn f n k + f (n - 1 - k)
theorem sdn_su (f : Nat → Int32) (n : Nat) : ∀ k, k ≤ n → sdn f n k + su f (n - k) = su f n
  | 0, _ => by show 0 + su f (n - 0) = _; rw [Int32.zero_add, Nat.sub_zero]
  | k + 1, h => by
    rw [← sdn_su f n k (by omega)]
    show sdn f n k + f (n - 1 - k) + su f (n - (k + 1)) = _
    have e : su f (n - k) = su f (n - (k + 1)) + f (n - 1 - k) := by
      rw [show n - k = n - (k + 1) + 1 by omega]
      show su f (n - (k + 1)) + f (n - (k + 1)) = _
      rw [show n - (k + 1) = n - 1 - k by omega]
    rw [e, Int32.add_assoc, Int32.add_comm (f (n - 1 - k))]
theorem sdn_all (f : Nat → Int32) (n : Nat) : sdn f n n = su f n := by
  have := sdn_su f n n (Nat.le_refl _)
  rw [Nat.sub_self] at this
  rw [← this]; show _ = sdn f n n + 0; rw [Int32.add_zero]
section Scene2
variable {c1 c6 c8 : Cl} {sc st : Nat} {S : Nat → Int32} {R D H Q M L E : Nat} {K : Nat → Nat}
theorem gl_57 {p : Nat → Nat} {l : Nat} {hv : Nat → Int32} (r6 : R ≤ 6) (l6 : l ≤ 6) (hp : ∀ i, i < l → p i < R) (h0 : cI c6 0 sc = nI R) (h5 : ∀ i, i < l → cA c6 5 sc i = hv i) : ∀ (i k : Nat) (c' : Cl), i + k = l → Kp [10, 11] c6 c' → Oth sc c6 c' → (∀ j, i ≤ j → j < l → cA c' 10 sc j = nI (p j)) → (∀ r, r < 6 → cA c' 11 sc r = sdn (fun j => if nI (p j) = nI r then hv j else 0) l k) → Rn (G_57 sc 0 [nI (cd R p i), px i] [] [] c') (fun r => Kp [10, 11] c6 r ∧ Oth sc c6 r ∧ (∀ j, j < l → cA r 10 sc j = nI (p j)) ∧ (∀ x, x < 6 → cA r 11 sc x = sdn (fun j => if nI (p j) = nI x then hv j else 0) l l))
  | 0, k, c', hi, hK, hO, h1, h2 => by
    have : k = l := by omega
    subst this
    rw [G_57]
    exact rn_p (by decide) (rn_r ⟨hK, hO, fun j q => h1 j (by omega) q, h2⟩)
  | i + 1, k, c', hi, hK, hO, h1, h2 => by
    have pi := hp i (by omega)
    have e0 : cI c' 0 sc = nI R := by rw [(hK 0 (by decide)).1]; exact h0
    have lt := cd_lt (b := R) (p := p) (n := i + 1) (fun j q => hp j (by omega))
    have l2 : R ^ (i + 1) ≤ 6 ^ 6 := Nat.le_trans (Nat.pow_le_pow_left r6 _) (Nat.pow_le_pow_right (by decide) (by omega))
    have l3 : (6 : Nat) ^ 6 = 46656 := rfl
    rw [G_57]
    rw [px_s, e0]
    refine rn_n (nI_pos (by omega)) (rn_n (nI_nle (by omega) (by omega)) (rn_e (v := nI (p i)) ?_ (rn_e (v := nI (cd R p i)) ?_ (rn_st (by omega) (by decide) ?_))))
    · rw [irm_ok (by omega) (by omega) (by omega), cd_mod pi]
    · unfold idv
      rw [if_neg (nI_ne0 (by omega) (by omega)), pk_div (by omega) (by omega) (by omega), cd_div pi]
    · rw [cA_ne (show 11 ≠ 10 by decide), cA_ne (show 5 ≠ 10 by decide)]
      refine rn_ld (by omega) (by decide) (rn_ld (by omega) (by decide) (rn_st (by omega) (by decide) ?_))
      rw [show nI i + (-1) = px i from rfl]
      have e5 : cA c' 5 sc i = hv i := by rw [(hK 5 (by decide)).2.2.2.1]; exact h5 i (by omega)
      refine gl_57 r6 l6 hp h0 h5 i (k + 1) _ (by omega) (kp_tr hK (kp_tr (kp_A (by decide)) (kp_A (by decide)))) (oth_tr hO (oth_tr oth_A oth_A)) (fun j q1 q2 => ?_) (fun r q => ?_)
      · rw [cA_ne (by decide), cA_same]
        by_cases w : j = i
        · subst w; rw [pk_us]
        · rw [pk_un w]; exact h1 j (by omega) q2
      · rw [cA_same, cA_ne (by decide), e5]
        show _ = sdn _ l k + (if nI (p (l - 1 - k)) = nI r then hv (l - 1 - k) else 0)
        rw [show l - 1 - k = i by omega, up_add (by omega) q, h2 r q]
theorem f_57 {p : Nat → Nat} {l : Nat} {hv : Nat → Int32} (r6 : R ≤ 6) (l6 : l ≤ 6) (hp : ∀ i, i < l → p i < R) (h0 : cI c6 0 sc = nI R) (hl : cI c6 1 sc = nI l) (h5 : ∀ i, i < l → cA c6 5 sc i = hv i) : Rn (F_57 c6 sc (nI (cd R p l))) (fun r => Kp [10, 11] c6 r ∧ Oth sc c6 r ∧ (∀ j, j < l → cA r 10 sc j = nI (p j)) ∧ (∀ x, x < 6 → cA r 11 sc x = su (fun j => if nI (p j) = nI x then hv j else 0) l)) := by
  unfold F_57
  refine rn_s ?_
  rw [show cI (sA c6 11 sc (filf 6 0 (cA c6 11 sc))) 1 sc = cI c6 1 sc from rfl, hl, show nI l - 1 = px l from Int32.sub_eq_add_neg _ _]
  refine rn_m (gl_57 (c6 := c6) (hv := hv) r6 l6 hp h0 h5 l 0 _ (by omega) (kp_A (by decide)) oth_A (fun j q1 q2 => by omega) (fun r q => by rw [cA_same]; unfold filf; rw [if_pos q]; rfl)) (fun r ⟨a, b, c, d⟩ => ⟨a, b, c, fun x q => by rw [d x q, sdn_all]⟩)
/-- a situation is looked at -/
theorem unf_ok {q : Nat → Nat} (r6 : R ≤ 6) (h6 : H ≤ 6) (hq : ∀ h, h < H → ¬ lv S h = 0 → q h < R) (hS : SC c6 sc S R D H Q) : Rn (F_57 c6 sc (nI (cd R (fun i => q (nbf S H i)) (lc S H)))) (fun r => Kp [10, 11] c6 r ∧ Oth sc c6 r ∧ AT r sc S R H q) := by
  obtain ⟨s0, s1, s2, s3, s4⟩ := hS
  have ll := lc_le S H
  refine rn_m (f_57 (p := fun i => q (nbf S H i)) (hv := fun i => S (40 + 6 * nbf S H i + 1)) r6 (by omega) (fun i z => by obtain ⟨a, b, c⟩ := nbf_ok z; exact hq _ a b) s0 s1 (fun i z => (s3 i z).2.1)) (fun r ⟨a, b, c, d⟩ => ⟨a, b, fun i z => c i z, fun x z => ?_⟩)
  rw [d x (by omega)]
  exact su_lc (S := S) (f := la1 S q (nI x)) (H := H) (n := H) (Nat.le_refl _)
/-- the rooms of now -/
def q0 (S : Nat → Int32) (h : Nat) : Nat := if lv S h = 0 then 0 else (S (40 + 6 * h + 0)).toNatClampNeg
/-- one more that lives -/
theorem gl_51a (hS : SR c1 c8 st S R D H Q M L E K) {P : Cl → Prop} {c0 : Cl} (k : ∀ c', Kp [1, 4, 5, 10] c0 c' → Oth sc c0 c' → cI c' 1 sc = nI (lc S H) → (∀ i, i < lc S H → cA c' 4 sc i = nI (nbf S H i) ∧ cA c' 5 sc i = S (40 + 6 * nbf S H i + 1) ∧ cA c' 10 sc i = nI (q0 S (nbf S H i))) → Rn (some (sI c' 2 sc 1) >>= fun c6_8 => some (sI c6_8 3 sc 0) >>= fun c6_9 => G_51 c1 c8 sc st 1 [(cI c6_9 1 sc) - 1] [] [] c6_9) P) : ∀ (m n : Nat) (c' : Cl), n + m = H → Kp [1, 4, 5, 10] c0 c' → Oth sc c0 c' → cI c' 1 sc = nI (lc S n) → (∀ i, i < lc S n → cA c' 4 sc i = nI (nbf S H i) ∧ cA c' 5 sc i = S (40 + 6 * nbf S H i + 1) ∧ cA c' 10 sc i = nI (q0 S (nbf S H i))) → Rn (G_51 c1 c8 sc st 0 [nI n] [] [cR c8 0 st] c') P
  | 0, n, c', hi, hK, hO, h1, h2 => by
    have : n = H := by omega
    subst this
    obtain ⟨-, -, ⟨e1, -, h6⟩, -⟩ := hS.1.1
    rw [G_51]
    exact rn_p (by rw [e1]; exact nI_le (Nat.le_refl _) (by omega)) (k c' hK hO h1 h2)
  | m + 1, n, c', hi, hK, hO, h1, h2 => by
    obtain ⟨-, -, ⟨e1, -, h6⟩, -⟩ := hS.1.1
    obtain ⟨a0, a1, -⟩ := hS.1.2.1 n (by omega)
    obtain ⟨⟨x, hx, ex⟩, -⟩ := hS.1.2.2.2.2.2.2.2.1.2.1 n (by omega)
    have r6 := hS.1.1.1.2.2
    have ln := lc_le S n
    rw [G_51]
    refine rn_n (by rw [e1]; exact nI_ge (by omega) (by omega)) (rn_e (f_83 (by omega) h6 hS.1.2.1) ?_)
    by_cases q : lv S n = 0
    · refine rn_e (in_pos q rfl) ?_
      rw [nI_1]
      refine gl_51a hS k m (n + 1) c' (by omega) hK hO ?_ ?_
      · rw [lc_d q]; exact h1
      · rw [lc_d q]; exact h2
    · have nn : nbf S H (lc S n) = n := nbf_lc (by omega) q
      refine rn_b (P := fun t => Kp [1, 4, 5, 10] c' t ∧ Oth sc c' t ∧ cI t 1 sc = nI (lc S n + 1) ∧ cA t 4 sc = upd (cA c' 4 sc) (lc S n) (nI n) ∧ cA t 5 sc = upd (cA c' 5 sc) (lc S n) (S (40 + 6 * n + 1)) ∧ cA t 10 sc = upd (cA c' 10 sc) (lc S n) (nI x)) (rn_n q ?_) (fun t ⟨tK, tO, t1, t4, t5, t10⟩ => ?_)
      · rw [h1]
        refine rn_st (by omega) (by decide) (rn_ld (by omega) (by decide) ?_)
        rw [cI_sA, h1, a1]
        refine rn_st (by omega) (by decide) (rn_ld (by omega) (by decide) ?_)
        rw [cI_sA, cI_sA, h1, a0, ex]
        refine rn_st (by omega) (by decide) (rn_s (rn_r ⟨kp_tr (kp_A (by decide)) (kp_tr (kp_A (by decide)) (kp_tr (kp_A (by decide)) (kp_I (by decide)))), oth_tr oth_A (oth_tr oth_A (oth_tr oth_A oth_I)), ?_, ?_, ?_, ?_⟩))
        · rw [cI_same, cI_sA, cI_sA, cI_sA, h1, nI_1]
        · simp only [cI_sI, cI_sJ, cI_sR, cI_sA, cI_sB, cI_sQ, cR_sI, cR_sJ, cR_sR, cR_sA, cR_sB, cR_sQ, cA_sI, cA_sJ, cA_sR, cA_sA, cA_sB, cA_sQ, Nat.reduceEqDiff, false_and, and_false, and_true, true_and, if_false, if_true, and_self, ↓reduceIte]
        · simp only [cI_sI, cI_sJ, cI_sR, cI_sA, cI_sB, cI_sQ, cR_sI, cR_sJ, cR_sR, cR_sA, cR_sB, cR_sQ, cA_sI, cA_sJ, cA_sR, cA_sA, cA_sB, cA_sQ, Nat.reduceEqDiff, false_and, and_false, and_true, true_and, if_false, if_true, and_self, ↓reduceIte]
        · simp only [cI_sI, cI_sJ, cI_sR, cI_sA, cI_sB, cI_sQ, cR_sI, cR_sJ, cR_sR, cR_sA, cR_sB, cR_sQ, cA_sI, cA_sJ, cA_sR, cA_sA, cA_sB, cA_sQ, Nat.reduceEqDiff, false_and, and_false, and_true, true_and, if_false, if_true, and_self, ↓reduceIte]
      · rw [nI_1]
        refine gl_51a hS k m (n + 1) t (by omega) (kp_tr hK tK) (oth_tr hO tO) (by rw [lc_s q]; exact t1) (fun i z => ?_)
        rw [lc_s q] at z
        rw [t4, t5, t10]
        by_cases w : i = lc S n
        · subst w
          rw [pk_us, pk_us, pk_us, nn]
          refine ⟨rfl, rfl, ?_⟩
          unfold q0; rw [if_neg q, ex, nI_clamp (by omega)]
        · rw [pk_un w, pk_un w, pk_un w]; exact h2 i (by omega)
/-- from the last digit on -/
def ct (b : Nat) (p : Nat → Nat) (l : Nat) : Nat → Nat
  | 0 => 0
  | k + 1 => ct b p l k + p (l - 1 - k) * b ^ k
theorem cd_ct {b : Nat} {p : Nat → Nat} {l : Nat} : ∀ k, k ≤ l → cd b p (l - k) * b ^ k + ct b p l k = cd b p l
  | 0, _ => by show cd b p (l - 0) * b ^ 0 + 0 = _; rw [Nat.pow_zero, Nat.mul_one, Nat.sub_zero, Nat.add_zero]
  | k + 1, h => by
    rw [← cd_ct (b := b) (p := p) (l := l) k (by omega)]
    show cd b p (l - (k + 1)) * b ^ (k + 1) + (ct b p l k + p (l - 1 - k) * b ^ k) = _
    have e : cd b p (l - k) = cd b p (l - (k + 1)) * b + p (l - 1 - k) := by
      rw [show l - k = l - (k + 1) + 1 by omega]
      show cd b p (l - (k + 1)) * b + p (l - (k + 1)) = _
      rw [show l - (k + 1) = l - 1 - k by omega]
    rw [e, Nat.add_mul, Nat.pow_succ, Nat.mul_assoc, Nat.mul_comm b]
    omega
theorem gl_51b {p : Nat → Nat} {l : Nat} {c0 : Cl} {P : Cl → Prop} (l6 : l ≤ 6) (h0 : cI c0 0 sc = nI R) (h10 : ∀ i, i < l → cA c0 10 sc i = nI (p i)) (k : ∀ c', Kp [2, 3, 6] c0 c' → Oth sc c0 c' → cI c' 2 sc = nI (R ^ l) → cI c' 3 sc = nI (cd R p l) → (∀ i, i < l → cA c' 6 sc i = nI (R ^ (l - 1 - i))) → Rn (F_57 c' sc (cI c' 3 sc) >>= fun r21 => some r21) P) : ∀ (i k : Nat) (c' : Cl), i + k = l → Kp [2, 3, 6] c0 c' → Oth sc c0 c' → cI c' 2 sc = nI (R ^ k) → cI c' 3 sc = nI (ct R p l k) → (∀ j, i ≤ j → j < l → cA c' 6 sc j = nI (R ^ (l - 1 - j))) → Rn (G_51 c1 c8 sc st 1 [px i] [] [] c') P
  | 0, kk, c', hi, hK, hO, h2, h3, h6 => by
    have : kk = l := by omega
    subst this
    rw [G_51]
    have e := cd_ct (b := R) (p := p) (l := kk) kk (Nat.le_refl _)
    rw [Nat.sub_self] at e
    have e' : ct R p kk kk = cd R p kk := by rw [← e]; show _ = 0 * R ^ kk + _; rw [Nat.zero_mul, Nat.zero_add]
    exact rn_p (by decide) (k c' hK hO h2 (by rw [h3, e']) (fun j q => h6 j (Nat.zero_le _) q))
  | i + 1, kk, c', hi, hK, hO, h2, h3, h6 => by
    rw [G_51]
    rw [px_s]
    refine rn_n (nI_pos (by omega)) (rn_st (by omega) (by decide) ?_)
    rw [cA_ne (show 10 ≠ 6 by decide)]
    refine rn_ld (by omega) (by decide) (rn_s (rn_s ?_))
    have e10 : cA c' 10 sc i = nI (p i) := by rw [(hK 10 (by decide)).2.2.2.1]; exact h10 i (by omega)
    have e00 : cI c' 0 sc = nI R := by rw [(hK 0 (by decide)).1]; exact h0
    rw [show nI i + (-1) = px i from rfl]
    have ei : i = l - 1 - kk := by omega
    refine gl_51b l6 h0 h10 k i (kk + 1) _ (by omega) (kp_tr hK (kp_tr (kp_A (by decide)) (kp_tr (kp_I (by decide)) (kp_I (by decide))))) (oth_tr hO (oth_tr oth_A (oth_tr oth_I oth_I))) ?_ ?_ (fun j q1 q2 => ?_)
    · simp only [cI_sI, cI_sJ, cI_sR, cI_sA, cI_sB, cI_sQ, cR_sI, cR_sJ, cR_sR, cR_sA, cR_sB, cR_sQ, cA_sI, cA_sJ, cA_sR, cA_sA, cA_sB, cA_sQ, Nat.reduceEqDiff, false_and, and_false, and_true, true_and, if_false, if_true, and_self, ↓reduceIte]
      rw [h2, e00, pk_mul, Nat.pow_succ]
    · simp only [cI_sI, cI_sJ, cI_sR, cI_sA, cI_sB, cI_sQ, cR_sI, cR_sJ, cR_sR, cR_sA, cR_sB, cR_sQ, cA_sI, cA_sJ, cA_sR, cA_sA, cA_sB, cA_sQ, Nat.reduceEqDiff, false_and, and_false, and_true, true_and, if_false, if_true, and_self, ↓reduceIte]
      rw [h2, h3, e10, pk_mul, nI_add]
      show _ = nI (ct R p l kk + p (l - 1 - kk) * R ^ kk)
      rw [← ei]
    · simp only [cI_sI, cI_sJ, cI_sR, cI_sA, cI_sB, cI_sQ, cR_sI, cR_sJ, cR_sR, cR_sA, cR_sB, cR_sQ, cA_sI, cA_sJ, cA_sR, cA_sA, cA_sB, cA_sQ, Nat.reduceEqDiff, false_and, and_false, and_true, true_and, if_false, if_true, and_self, ↓reduceIte]
      by_cases w : j = i
      · subst w; rw [pk_us, h2, show l - 1 - j = kk by omega]
      · rw [pk_un w]; exact h6 j (by omega) q2
/-- weights -/
theorem gl_52b {ho s : Nat} (r6 : R ≤ 6) (hs : s < 6) (hh : cA c1 11 ho s = S (88 + s)) {c0 : Cl} : ∀ (m i : Nat) (c' : Cl), i + m = R → Kp [9] c0 c' → Oth sc c0 c' → cI c' 0 sc = nI R → (∀ r, r < R → cB c' 9 sc r = lN (wt S r (if r < i then s + 1 else s))) → ∃ c'', G_52 c1 sc ho 1 [nI s, nI i] [] [] c' = G_52 c1 sc ho 0 [nI (s + 1)] [] [] c'' ∧ Kp [9] c0 c'' ∧ Oth sc c0 c'' ∧ cI c'' 0 sc = nI R ∧ (∀ r, r < R → cB c'' 9 sc r = lN (wt S r (s + 1)))
  | 0, i, c', hi, hK, hO, h0, h1 => by
    have : i = R := by omega
    subst this
    refine ⟨c', ?_, hK, hO, h0, fun r q => by have := h1 r q; rw [if_pos q] at this; exact this⟩
    conv => lhs; rw [G_52]
    rw [h0, if_pos (nI_le (Nat.le_refl _) (by omega)), nI_1]
  | m + 1, i, c', hi, hK, hO, h0, h1 => by
    have w64 : lN 1 <<< ((8 * nI s : Int32).toInt64 &&& 63) = lN (2 ^ (8 * s)) := by
      have key : ∀ s : Fin 6, lN 1 <<< ((8 * nI s.val : Int32).toInt64 &&& 63) = lN (2 ^ (8 * s.val)) := by decide +kernel
      exact key ⟨s, hs⟩
    have hi1 := h1 i (by omega)
    rw [if_neg (Nat.lt_irrefl _)] at hi1
    by_cases q : ((S (88 + s) >>> (nI i &&& 31)) &&& 1) = 1
    · have b1 : ¬ bit1 (S (88 + s)) (nI i) = 0 := by unfold bit1; rw [if_pos q]; decide
      obtain ⟨c'', g1, g2, g3, g4, g5⟩ := gl_52b r6 hs hh (c0 := c0) m (i + 1) (sB c' 9 sc (vp_updL (cB c' 9 sc) i (lN (wt S i s) + lN (2 ^ (8 * s))))) (by omega) (kp_tr hK (kp_B (by decide))) (oth_tr hO oth_B) h0 (fun r z => by
        rw [cB_same]
        by_cases w : r = i
        · subst w
          rw [pk_uLs, if_pos (by omega), lN_add]
          show _ = lN (wt S r s + (if bit1 (S (88 + s)) (nI r) = 0 then 0 else 2 ^ (8 * s)))
          rw [if_neg b1]
        · rw [pk_uLn w, h1 r z]
          by_cases y : r < i
          · rw [if_pos y, if_pos (by omega)]
          · rw [if_neg y, if_neg (by omega)])
      refine ⟨c'', ?_, g2, g3, g4, g5⟩
      rw [← g1]
      conv => lhs; rw [G_52]
      rw [h0, if_neg (nI_ge (by omega) (by omega)), ald_ok (by omega) (by decide), hh]
      show (((if ((S (88 + s) >>> (nI i &&& 31)) &&& 1) = 1 then ldl (cB c' 9 sc) 6 (nI i) >>= fun v8 => stl c' 9 sc 6 (nI i) (v8 + (1 <<< ((8 * nI s : Int32).toInt64 &&& 63))) >>= fun c6_9 => some c6_9 else some c') : Option (Cl)) >>= fun (t5 : Cl) => G_52 c1 sc ho 1 [nI s, nI i + 1] [] [] t5) = _
      rw [if_pos q, ldl_ok (by omega) (by decide), hi1, nI_1]
      show (stl c' 9 sc 6 (nI i) (lN (wt S i s) + (lN 1 <<< ((8 * nI s : Int32).toInt64 &&& 63))) >>= fun c6_9 => some c6_9) >>= (fun t5 => G_52 c1 sc ho 1 [nI s, nI (i + 1)] [] [] t5) = _
      rw [w64, stl_ok (by omega) (by decide)]
      rfl
    · have b1 : bit1 (S (88 + s)) (nI i) = 0 := by unfold bit1; rw [if_neg q]
      obtain ⟨c'', g1, g2, g3, g4, g5⟩ := gl_52b r6 hs hh (c0 := c0) m (i + 1) c' (by omega) hK hO h0 (fun r z => by
        rw [h1 r z]
        by_cases w : r = i
        · subst w
          rw [if_neg (Nat.lt_irrefl _), if_pos (by omega)]
          show _ = lN (wt S r s + (if bit1 (S (88 + s)) (nI r) = 0 then 0 else 2 ^ (8 * s)))
          rw [if_pos b1, Nat.add_zero]
        · by_cases y : r < i
          · rw [if_pos y, if_pos (by omega)]
          · rw [if_neg y, if_neg (by omega)])
      refine ⟨c'', ?_, g2, g3, g4, g5⟩
      rw [← g1]
      conv => lhs; rw [G_52]
      rw [h0, if_neg (nI_ge (by omega) (by omega)), ald_ok (by omega) (by decide), hh]
      show (((if ((S (88 + s) >>> (nI i &&& 31)) &&& 1) = 1 then ldl (cB c' 9 sc) 6 (nI i) >>= fun v8 => stl c' 9 sc 6 (nI i) (v8 + (1 <<< ((8 * nI s : Int32).toInt64 &&& 63))) >>= fun c6_9 => some c6_9 else some c') : Option (Cl)) >>= fun (t5 : Cl) => G_52 c1 sc ho 1 [nI s, nI i + 1] [] [] t5) = _
      rw [if_neg q, nI_1]
      rfl
theorem gl_52a {ho : Nat} (r6 : R ≤ 6) (q6 : Q ≤ 6) (hQ : cI c1 3 ho = nI Q) (hh : ∀ s, s < Q → cA c1 11 ho s = S (88 + s)) {c0 : Cl} : ∀ (m s : Nat) (c' : Cl), s + m = Q → Kp [9] c0 c' → Oth sc c0 c' → cI c' 0 sc = nI R → (∀ r, r < R → cB c' 9 sc r = lN (wt S r s)) → Rn (G_52 c1 sc ho 0 [nI s] [] [] c') (fun r => Kp [9] c0 r ∧ Oth sc c0 r ∧ ∀ x, x < R → cB r 9 sc x = lN (wt S x Q))
  | 0, s, c', hi, hK, hO, h0, h1 => by
    have : s = Q := by omega
    subst this
    rw [G_52]
    exact rn_p (by rw [hQ]; exact nI_le (Nat.le_refl _) (by omega)) (rn_r ⟨hK, hO, h1⟩)
  | m + 1, s, c', hi, hK, hO, h0, h1 => by
    obtain ⟨c'', g1, g2, g3, g4, g5⟩ := gl_52b (c1 := c1) (sc := sc) (S := S) r6 (show s < 6 by omega) (hh s (by omega)) (c0 := c0) R 0 c' (by omega) hK hO h0 (fun r z => by rw [if_neg (Nat.not_lt_zero _)]; exact h1 r z)
    have := gl_52a r6 q6 hQ hh (c0 := c0) m (s + 1) c'' (by omega) g2 g3 g4 g5
    rw [G_52]
    refine rn_n (by rw [hQ]; exact nI_ge (by omega) (by omega)) ?_
    refine Eq.mpr (congrArg (fun z => Rn z _) (show G_52 c1 sc ho 1 [nI s, 0] [] [] c' = _ from g1)) this
end Scene2
