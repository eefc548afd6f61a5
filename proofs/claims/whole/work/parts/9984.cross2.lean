/-! ===== all ways in which heads go or stay at once: the class ===== -/
section CrossC
variable {c1 c8 : Cl} {d : Ad} {sc st cr : Nat} {S : Nat → Int32} {R D H Q M L E : Nat} {K : Nat → Nat} {α : Type} {a : Nat → Nat} {th : Bool} {mo aim : Nat} {en : α → Bool} {lf : (Nat → Nat) → α → α} {mg : α → Nat} {rel : α → Cl → Cl → Prop} {c6z : Cl}
/-- what is known of the object that crosses -/
def CrF (cr sc : Nat) (S : Nat → Int32) (th : Bool) (mo aim : Nat) (en : α → Bool) (mg : α → Nat) (rel : α → Cl → Cl → Prop) : Prop := ∀ x c0 c13, rel x c0 c13 → cR c0 0 cr = sc ∧ cI c0 8 cr = (if en x = true then 1 else 0) ∧ cI c0 7 cr = (if th = true then 1 else 0) ∧ cI c0 4 cr = nI (lc S mo) ∧ cI c0 5 cr = nI aim ∧ cI c0 6 cr = nI (mg x) ∧ mg x ≤ 6
/-- counts as they are looked at -/
def CtA (c6z c6 : Cl) (sc : Nat) (S : Nat → Int32) (R H : Nat) (q : Nat → Nat) : Prop := Kp [11] c6z c6 ∧ Oth sc c6z c6 ∧ ∀ y, y < R → cA c6 11 sc y = nI (laN S H q y)
theorem rwb_end {q : Nat → Nat} {h : Nat} {g : (Nat → Nat) → α → α} {x : α} {r : Nat} (he : en (rwb S D a th mo aim en q h g r x) = true) : ∀ k, rwb S D a th mo aim en q h g (r + k) x = rwb S D a th mo aim en q h g r x
  | 0 => rfl
  | k + 1 => by
    have ih := rwb_end he k
    show (if en (rwb S D a th mo aim en q h g (r + k) x) = true then rwb S D a th mo aim en q h g (r + k) x else _) = _
    rw [ih, if_pos he]
theorem kc_mv (hR : 0 < R) {q : Nat → Nat} {h r : Nat} (hq : Qok S R H q) (hh : h < H) (hl : ¬ lv S h = 0) : nI (kc S R H q) + (nI r - nI (q h)) * nI (R ^ (lc S H - 1 - lc S h)) = nI (kc S R H (mv q h r)) := by
  have t := tg_c (S := S) (r := r) hR (kc_lt hq) hh hl
  rw [qs_kc hR hq hh hl] at t
  rw [t]
  congr 1
  refine kc_cg fun k hk hl' => ?_
  unfold mv
  by_cases w : k = h
  · rw [if_pos w, if_pos w]
  · rw [if_neg w, if_neg w]; exact qs_kc hR hq hk hl'
theorem i64_mv {x y u v : Nat} (h : x + u = y + v) : lN y + (lN v - lN u) = lN x := by
  have e : lN x + lN u = lN y + lN v := by rw [lN_add, lN_add, h]
  rw [Int64.sub_eq_add_neg, ← Int64.add_assoc, ← e, Int64.add_assoc, Int64.add_right_neg, Int64.add_zero]
theorem gl_5 {Rr : Cl → Cl → Cl → Ad → Nat → Int32 → Int32 → Int32 → Int64 → Option (Cl × Cl × Cl)} {m i : Nat} {q : Nat → Nat} {x : α} (hS : SR c1 c8 st S R D H Q M L E K) (hR0 : 0 < R) (hC : SC c6z sc S R D H Q) (ha : Qok S R H a) (hF : CrF cr sc S th mo aim en mg rel) (ln : ∀ q x, mg x < gn S H a q → lf q x = x) (hm : mo < H) (hml : ¬ lv S mo = 0) (ham : aim < R) (hi : i + (m + 1) = lc S H) (hq : Qok S R H q) (hqa : ∀ h, h < H → ¬ lv S h = 0 → i ≤ lc S h → q h = a h) (hrec : ∀ (q : Nat → Nat) (x : α) (c0 c6 c13 : Cl), en x = false → rel x c0 c13 → CtA c6z c6 sc S R H q → Qok S R H q → (∀ h, h < H → ¬ lv S h = 0 → i + 1 ≤ lc S h → q h = a h) → Rn (Rr c0 c6 c13 d cr (nI (i + 1)) (nI (kc S R H q)) (nI (gn S H a q)) (lN (se S H Q q))) (fun r => rel (blk S R D H a th mo aim en lf m q x) r.1 r.2.2 ∧ CtA c6z r.2.1 sc S R H q)) : ∀ (k r : Nat) (c0 c6 c13 : Cl), r + k = R → rel (rwb S D a th mo aim en q (nbf S H i) (fun q' x' => blk S R D H a th mo aim en lf m q' x') r x) c0 c13 → CtA c6z c6 sc S R H q → Rn (G_5 Rr d cr 0 [nI i, nI (kc S R H q), nI (gn S H a q), nI (a (nbf S H i)), nI r] [lN (se S H Q q)] [] c0 c6 c13) (fun z => rel (rwb S D a th mo aim en q (nbf S H i) (fun q' x' => blk S R D H a th mo aim en lf m q' x') R x) z.1 z.2.2 ∧ CtA c6z z.2.1 sc S R H q)
  | 0, r, c0, c6, c13, hr, h1, h2 => by
    have : r = R := by omega
    subst this
    have r6 := hS.1.1.1.2.2
    rw [G_5, (hF _ _ _ h1).1, (h2.1 0 (by decide)).1, hC.1]
    exact rn_p (nI_le (Nat.le_refl _) (by omega)) (rn_r ⟨h1, h2⟩)
  | k + 1, r, c0, c6, c13, hr, h1, h2 => by
    obtain ⟨⟨-, -, r6⟩, -, ⟨-, -, h6⟩, -⟩ := id hS.1.1
    have ll := lc_le S H
    obtain ⟨b1, b2, b3⟩ := nbf_ok (S := S) (n := H) (i := i) (by omega)
    obtain ⟨y, ey⟩ : ∃ y, y = rwb S D a th mo aim en q (nbf S H i) (fun q' x' => blk S R D H a th mo aim en lf m q' x') r x := ⟨_, rfl⟩
    obtain ⟨f0, f8, f7, f4, f5, f6, fm⟩ := hF _ _ _ h1
    rw [← ey] at f8 f6 fm h1
    have nxt : rwb S D a th mo aim en q (nbf S H i) (fun q' x' => blk S R D H a th mo aim en lf m q' x') (r + 1) x = if en y = true then y else if okh S D a th mo aim (nbf S H i) r = true then blk S R D H a th mo aim en lf m (mv q (nbf S H i) r) y else y := by rw [ey]; rfl
    have go : ∀ (z : α) (c0' c6' c13' : Cl), rwb S D a th mo aim en q (nbf S H i) (fun q' x' => blk S R D H a th mo aim en lf m q' x') (r + 1) x = z → rel z c0' c13' → CtA c6z c6' sc S R H q → Rn (G_5 Rr d cr 0 [nI i, nI (kc S R H q), nI (gn S H a q), nI (a (nbf S H i)), nI r + 1] [lN (se S H Q q)] [] c0' c6' c13') (fun z => rel (rwb S D a th mo aim en q (nbf S H i) (fun q' x' => blk S R D H a th mo aim en lf m q' x') R x) z.1 z.2.2 ∧ CtA c6z z.2.1 sc S R H q) := fun z c0' c6' c13' ez g1 g2 => by
      rw [nI_1]
      exact gl_5 hS hR0 hC ha hF ln hm hml ham hi hq hqa hrec k (r + 1) c0' c6' c13' (by omega) (by rw [ez]; exact g1) g2
    obtain ⟨h, eh⟩ : ∃ h, h = nbf S H i := ⟨_, rfl⟩
    rw [← eh] at b1 b2 b3 nxt go ⊢
    have qh : q h = a h := hqa h b1 b2 (by omega)
    have al : a h < R := ha h b1 b2
    have e0 : cI c6 0 sc = nI R := by rw [(h2.1 0 (by decide)).1]; exact hC.1
    have im : nI i = nI (lc S mo) ↔ h = mo := by
      have lm := lc_le S mo
      constructor
      · intro z
        have := (nI_eq (by omega) (by omega)).mp z
        exact lc_inj b2 hml (by rw [b3, this])
      · intro z; rw [← z, b3]
    rw [G_5, f0, e0]
    refine rn_n (nI_ge (by omega) (by omega)) ?_
    by_cases w : en y = true
    · have e8 : ¬ cI c0 8 cr = 0 := by rw [f8, if_pos w]; decide
      refine rn_n e8 (rn_r ⟨?_, h2⟩)
      have := rwb_end (S := S) (D := D) (a := a) (th := th) (mo := mo) (aim := aim) (en := en) (q := q) (h := h) (g := fun q' x' => blk S R D H a th mo aim en lf m q' x') (x := x) (r := r) (by rw [eh, ← ey]; exact w) (k + 1)
      rw [show r + (k + 1) = R by omega] at this
      rw [this, eh, ← ey]; exact h1
    have w' : en y = false := by cases e : en y with | false => rfl | true => exact absurd e w
    rw [if_neg w] at nxt
    refine rn_p (by rw [f8, if_neg w]) ?_
    have skip : okh S D a th mo aim h r = false → Rn (G_5 Rr d cr 0 [nI i, nI (kc S R H q), nI (gn S H a q), nI (a h), nI r + 1] [lN (se S H Q q)] [] c0 c6 c13) (fun z => rel (rwb S D a th mo aim en q h (fun q' x' => blk S R D H a th mo aim en lf m q' x') R x) z.1 z.2.2 ∧ CtA c6z z.2.1 sc S R H q) := fun e => go y c0 c6 c13 (by rw [nxt, e]; rfl) h1 h2
    by_cases v : r = a h
    · /- one stays -/
      refine rn_p (by rw [v]) ?_
      have stay : okh S D a th mo aim h r = true → Rn (G_5 Rr d cr 1 [nI i, nI (kc S R H q), nI (gn S H a q), nI (a h), nI r] [lN (se S H Q q)] [] c0 c6 c13) (fun z => rel (rwb S D a th mo aim en q h (fun q' x' => blk S R D H a th mo aim en lf m q' x') R x) z.1 z.2.2 ∧ CtA c6z z.2.1 sc S R H q) := fun e => by
        rw [G_5, nI_1]
        refine rn_b (hrec q y c0 c6 c13 w' h1 h2 hq (fun h hh hl hle => hqa h hh hl (by omega))) (fun z ⟨z1, z2⟩ => ?_)
        exact go _ z.1 z.2.1 z.2.2 (by rw [nxt, if_pos e, mv_id (by rw [v, qh])]) z1 z2
      cases th with
      | true =>
        refine rn_n (by rw [f7]; decide) (stay ?_)
        unfold okh; rw [if_pos v]; rfl
      | false =>
        refine rn_p (by rw [f7]; rfl) ?_
        rw [f4]
        by_cases u : h = mo
        · refine rn_p (im.mpr u) (skip ?_)
          unfold okh; rw [if_pos v]; simp [u]
        · refine rn_n (fun z => u (im.mp z)) (stay ?_)
          unfold okh; rw [if_pos v]; simp [u]
    · /- one goes -/
      refine rn_n (fun z => v ((nI_eq (by omega) (by omega)).mp z)) ?_
      have gl := gn_le (S := S) (H := H) (a := a) (q := q)
      have gm := gn_mv (S := S) (H := H) (a := a) (q := q) (h := h) (r := r) b1 b2 qh v
      rw [f6]
      by_cases u : mg y ≤ gn S H a q
      · refine rn_p (nI_le u (by omega)) (go y c0 c6 c13 ?_ h1 h2)
        rw [nxt]
        split
        · exact blk_no (mg := mg) ln m (i + 1) _ (by omega) (fun h' hh hl hle => by
            unfold mv
            rw [if_neg (fun z => by rw [z, b3] at hle; omega)]
            exact hqa h' hh hl (by omega)) (by rw [gm]; omega)
        · rfl
      · refine rn_n (nI_ge (by omega) (by omega)) (rn_e (f_59 (S := S) (p := nI r) r6 al (SC_k h2.1 (by decide) hC)) ?_)
        by_cases t : bit1 (bs S (nI (a h)) D) (nI r) = 0
        · refine rn_p t (skip ?_)
          unfold okh; rw [if_neg v]; simp [t]
        · refine rn_n t ?_
          have move : okh S D a th mo aim h r = true → Rn (G_5 Rr d cr 2 [nI i, nI (kc S R H q), nI (gn S H a q), nI (a h), nI r] [lN (se S H Q q)] [] c0 c6 c13) (fun z => rel (rwb S D a th mo aim en q h (fun q' x' => blk S R D H a th mo aim en lf m q' x') R x) z.1 z.2.2 ∧ CtA c6z z.2.1 sc S R H q) := fun e => by
            obtain ⟨v1, v2, v3⟩ := hv_nI hS b1
            have hil : i < lc S H := by omega
            have k5 : ∀ (cz : Cl), Kp [11] c6z cz → ald (cA cz 5 sc) 6 (nI i) = some (nI (hv S h)) := fun cz kz => (ald_ok (by omega) (by decide)).trans (by rw [(kz 5 (by decide)).2.2.2.1, (hC.2.2.2.1 i hil).2.1, ← eh, v1])
            have lm := fun z => laN_mv (S := S) (H := H) (q := q) (h := h) (r := r) (x := z) b1 b2
            rw [qh] at lm
            have l24 := fun z => laN_24 hS (q := q) (r := z)
            have s1 := laN_24 hS (q := mv q h r) (r := r)
            have la' := lm (a h)
            rw [if_pos rfl, if_neg v] at la'
            have lr' := lm r
            rw [if_neg (fun z => v z.symm), if_pos rfl] at lr'
            rw [G_5, f0]
            refine rn_ld (by omega) (by decide) (rn_e (k5 c6 h2.1) (rn_st (by omega) (by decide) ?_))
            obtain ⟨ca, hca⟩ : ∃ ca, ca = sA c6 11 sc (upd (cA c6 11 sc) (a h) (cA c6 11 sc (a h) - nI (hv S h))) := ⟨_, rfl⟩
            have ka : Kp [11] c6z ca := by rw [hca]; exact kp_tr h2.1 (kp_A (by decide))
            rw [← hca]
            refine rn_ld (by omega) (by decide) (rn_e (k5 ca ka) (rn_st (by omega) (by decide) ?_))
            obtain ⟨cb, hcb⟩ : ∃ cb, cb = sA ca 11 sc (upd (cA ca 11 sc) r (cA ca 11 sc r + nI (hv S h))) := ⟨_, rfl⟩
            have kb : Kp [11] c6z cb := by rw [hcb]; exact kp_tr ka (kp_A (by decide))
            rw [← hcb]
            have ctb : CtA c6z cb sc S R H (mv q h r) := by
              refine ⟨kb, by rw [hcb, hca]; exact oth_tr h2.2.1 (oth_tr oth_A oth_A), fun z hz => ?_⟩
              rw [hcb, cA_same]
              by_cases z1 : z = r
              · rw [z1, pk_us, hca, cA_same, pk_un v, h2.2.2 r (by omega), nI_add]
                congr 1; omega
              · rw [pk_un z1, hca, cA_same]
                by_cases z2 : z = a h
                · rw [z2, pk_us, h2.2.2 (a h) al, pk_sub (by omega)]
                  congr 1; omega
                · rw [pk_un z2, h2.2.2 z hz]
                  have := lm z
                  rw [if_neg (fun e => z2 e.symm), if_neg (fun e => z1 e.symm)] at this
                  congr 1; omega
            have k9 : ∀ z, z < R → ldl (cB cb 9 sc) 6 (nI z) = some (lN (wt S z Q)) := fun z hz => (ldl_ok (by omega) (by decide)).trans (by rw [(kb 9 (by decide)).2.2.2.2.1, (hC.2.2.2.2 z hz).2.2])
            refine rn_e (k5 cb kb) (rn_e (k9 r (by omega)) (rn_e (k9 (a h) al) (rn_e (v := nI (R ^ (lc S H - 1 - i))) ((ald_ok (by omega) (by decide)).trans (by rw [(kb 6 (by decide)).2.2.2.1, (hC.2.2.2.1 i hil).2.2])) ?_)))
            have kmv := kc_mv (S := S) (r := r) hR0 hq b1 b2
            rw [qh, b3] at kmv
            have sem := se_mv (S := S) (Q := Q) (q := q) (h := h) (r := r) b1 b2
            rw [qh] at sem
            have sen : lN (se S H Q q) + (nI (hv S h)).toInt64 * (lN (wt S r Q) - lN (wt S (a h) Q)) = lN (se S H Q (mv q h r)) := by
              rw [nI_l (by omega), Int64.mul_sub, lN_mul, lN_mul]
              exact i64_mv sem
            rw [kmv, nI_1, nI_1, ← gm, sen]
            refine rn_b (hrec (mv q h r) y c0 cb c13 w' h1 ctb (mv_ok hq (by omega)) (fun h' hh hl hle => by
              unfold mv
              rw [if_neg (fun z => by rw [z, b3] at hle; omega)]
              exact hqa h' hh hl (by omega))) (fun z ⟨z1, z2⟩ => ?_)
            rw [(hF _ _ _ z1).1]
            refine rn_ld (by omega) (by decide) (rn_e (k5 _ z2.1) (rn_st (by omega) (by decide) ?_))
            obtain ⟨cc, hcc⟩ : ∃ cc, cc = sA z.2.1 11 sc (upd (cA z.2.1 11 sc) (a h) (cA z.2.1 11 sc (a h) + nI (hv S h))) := ⟨_, rfl⟩
            have kc' : Kp [11] c6z cc := by rw [hcc]; exact kp_tr z2.1 (kp_A (by decide))
            rw [← hcc]
            refine rn_ld (by omega) (by decide) (rn_e (k5 cc kc') (rn_st (by omega) (by decide) ?_))
            refine go _ z.1 _ z.2.2 (by rw [nxt, if_pos e]) z1 ⟨kp_tr kc' (kp_A (by decide)), oth_tr z2.2.1 (by rw [hcc]; exact oth_tr oth_A oth_A), fun y' hy' => ?_⟩
            rw [cA_same]
            by_cases z3 : y' = r
            · rw [z3, pk_us, hcc, cA_same, pk_un v, z2.2.2 r (by omega), pk_sub (by omega)]
              congr 1; omega
            · rw [pk_un z3, hcc, cA_same]
              by_cases z4 : y' = a h
              · rw [z4, pk_us, z2.2.2 (a h) al, nI_add]
                congr 1
              · rw [pk_un z4, z2.2.2 y' hy']
                have := lm y'
                rw [if_neg (fun e => z4 e.symm), if_neg (fun e => z3 e.symm)] at this
                congr 1
          cases th with
          | true =>
            refine rn_n (by rw [f7]; decide) (move ?_)
            unfold okh; rw [if_neg v]; simp [t]
          | false =>
            refine rn_p (by rw [f7]; rfl) ?_
            rw [f4]
            by_cases s : h = mo
            · refine rn_p (im.mpr s) ?_
              rw [f5]
              by_cases p : r = aim
              · refine rn_p (by rw [p]) (move ?_)
                unfold okh; rw [if_neg v, decide_eq_true t, decide_eq_true p]; simp
              · refine rn_n (fun z => p ((nI_eq (by omega) (by omega)).mp z)) (skip ?_)
                unfold okh; rw [if_neg v]; simp [s, p]
            · refine rn_n (fun z => s (im.mp z)) (move ?_)
              unfold okh; rw [if_neg v]; simp [t, s]
/-- the class's crossing is all ways, one after the other -/
theorem cross_ok (hS : SR c1 c8 st S R D H Q M L E K) (hR0 : 0 < R) (hC : SC c6z sc S R D H Q) (ha : Qok S R H a) (hA : ∀ i, i < lc S H → cA c6z 10 sc i = nI (a (nbf S H i))) (hF : CrF cr sc S th mo aim en mg rel) (ln : ∀ q x, mg x < gn S H a q → lf q x = x) (hm : mo < H) (hml : ¬ lv S mo = 0) (ham : aim < R) (hlf : ∀ (q : Nat → Nat) (x : α) (c0 c6 c13 : Cl), en x = false → rel x c0 c13 → CtA c6z c6 sc S R H q → Qok S R H q → Rn (F_6 c0 c6 c13 d cr (nI (kc S R H q)) (nI (gn S H a q)) (lN (se S H Q q))) (fun r => rel (lf q x) r.1 r.2)) : ∀ (m i n : Nat) (q : Nat → Nat) (x : α) (c0 c6 c13 : Cl), i + m = lc S H → m < n → en x = false → rel x c0 c13 → CtA c6z c6 sc S R H q → Qok S R H q → (∀ h, h < H → ¬ lv S h = 0 → i ≤ lc S h → q h = a h) → Rn (FR_5 n c0 c6 c13 d cr (nI i) (nI (kc S R H q)) (nI (gn S H a q)) (lN (se S H Q q))) (fun r => rel (blk S R D H a th mo aim en lf m q x) r.1 r.2.2 ∧ CtA c6z r.2.1 sc S R H q) := fun m => by
  obtain ⟨⟨-, -, r6⟩, -, ⟨-, -, h6⟩, -⟩ := id hS.1.1
  have ll := lc_le S H
  induction m with
  | zero =>
    intro i n q x c0 c6 c13 hi hn he h1 h2 hq hqa
    obtain ⟨n', rfl⟩ : ∃ n', n = n' + 1 := ⟨n - 1, by omega⟩
    have : i = lc S H := by omega
    subst this
    show Rn (A_5 (FR_5 n') c0 c6 c13 d cr _ _ _ _) _
    unfold A_5
    rw [(hF _ _ _ h1).1, (h2.1 1 (by decide)).1, hC.2.1]
    refine rn_n (nI_nlt (Nat.le_refl _) (by omega)) (rn_b (hlf q x c0 c6 c13 he h1 h2 hq) (fun r g => rn_r ⟨g, h2⟩))
  | succ m ih =>
    intro i n q x c0 c6 c13 hi hn he h1 h2 hq hqa
    obtain ⟨n', rfl⟩ : ∃ n', n = n' + 1 := ⟨n - 1, by omega⟩
    show Rn (A_5 (FR_5 n') c0 c6 c13 d cr _ _ _ _) _
    unfold A_5
    rw [(hF _ _ _ h1).1, (h2.1 1 (by decide)).1, hC.2.1]
    refine rn_p (nI_lt (by omega) (by omega)) (rn_e (v := nI (a (nbf S H i))) ((ald_ok (by omega) (by decide)).trans (by rw [(h2.1 10 (by decide)).2.2.2.1, hA i (by omega)])) ?_)
    have g := gl_5 (Rr := FR_5 n') (x := x) (d := d) hS hR0 hC ha hF ln hm hml ham hi hq hqa (fun q x c0 c6 c13 g1 g2 g3 g4 g5 => ih (i + 1) n' q x c0 c6 c13 (by omega) (by omega) g1 g2 g3 g4 g5) R 0 c0 c6 c13 (by omega) h1 h2
    have e : blk S R D H a th mo aim en lf (m + 1) q x = rwb S D a th mo aim en q (nbf S H i) (fun q' x' => blk S R D H a th mo aim en lf m q' x') R x := by
      show rwb S D a th mo aim en q (nbf S H (lc S H - 1 - m)) (fun q' x' => blk S R D H a th mo aim en lf m q' x') R x = _
      rw [show lc S H - 1 - m = i by omega]
    rw [e]
    exact g
end CrossC
