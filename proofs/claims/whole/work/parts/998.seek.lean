/-! ===== gather: the class seeks ===== -/
section Bfs2
variable {S : Nat → Int32} {R D H : Nat}
/-- what comes new is one farther -/
def BY (σ τ : Bq) (v : Nat) : Prop := BX σ τ ∧ ∀ j, bn σ ≤ j → j < bn τ → bfr τ (bu τ j) = v
theorem by_tr {σ τ υ : Bq} {v : Nat} (h : BY σ τ v) (h' : BY τ υ v) : BY σ υ v := ⟨bx_tr h.1 h'.1, fun j h1 h2 => by
  by_cases w : j < bn τ
  · rw [h'.1.2.1 j w, (h'.1.2.2 j w).1]; exact h.2 j h1 w
  · exact h'.2 j (by omega) h2⟩
theorem by_rf (σ : Bq) (v : Nat) : BY σ σ v := ⟨bx_rf _, fun j a b => by omega⟩
theorem st1_y {σ : Bq} {K k h r : Nat} (hR : 0 < R) (r6 : R ≤ 6) (h6 : H ≤ 6) (hi : BI S R H σ K) (hk : k < bn σ) (hh : h < H) (hl : ¬ lv S h = 0) (hr : r < R) (hK : K ≤ kev σ k h r) : BY σ (st1 S R D H k h r σ) (bfr σ (bu σ k) + 1) := by
  have g := (st1_ok (D := D) hR r6 h6 hi hk hh hl hr hK).2
  refine ⟨g, fun j h1 h2 => ?_⟩
  unfold st1 at h2 ⊢
  split at h2
  · omega
  · rename_i w
    split at h2
    · rename_i y
      rw [if_neg w, if_pos y]
      have e : j = bn σ := by have h2' : j < bn σ + 1 := h2; omega
      subst e
      show un (bfr σ) _ _ (un (bu σ) (bn σ) _ (bn σ)) = _
      rw [un_s, un_s]
    · omega
theorem brow_y {σ : Bq} {k h : Nat} (hR : 0 < R) (r6 : R ≤ 6) (h6 : H ≤ 6) (hi : BI S R H σ (kev σ k h 0)) (hk : k < bn σ) (hh : h < H) (hl : ¬ lv S h = 0) {r : Nat} : ∀ m, r + m ≤ R → BY (brow S R D H k h σ r) (brow S R D H k h σ (r + m)) (bfr σ (bu σ k) + 1)
  | 0, _ => by_rf _ _
  | m + 1, hm => by
    have b := brow_ok (D := D) hR r6 h6 hi hk hh hl (r + m) (by omega)
    have e := bx_g (h := h) (r := r + m) b.2 hk
    have g := st1_y (D := D) (h := h) (r := r + m) hR r6 h6 b.1 (Nat.lt_of_lt_of_le hk b.2.1) hh hl (by omega) (by rw [e.2]; exact Nat.le_refl _)
    rw [b.2.2.1 k hk, (b.2.2.2 k hk).1] at g
    exact by_tr (brow_y hR r6 h6 hi hk hh hl m (by omega)) g
theorem bex_y {σ : Bq} {k : Nat} (hR : 0 < R) (r6 : R ≤ 6) (h6 : H ≤ 6) (hi : BI S R H σ (kev σ k 0 0)) (hk : k < bn σ) {h : Nat} : ∀ m, h + m ≤ H → BY (bex S R D H k σ h) (bex S R D H k σ (h + m)) (bfr σ (bu σ k) + 1)
  | 0, _ => by_rf _ _
  | m + 1, hm => by
    have ih := bex_y hR r6 h6 hi hk m (show h + m ≤ H by omega)
    have b := bex_ok (D := D) hR r6 h6 hi hk (h + m) (by omega)
    refine by_tr ih ?_
    show BY (bex S R D H k σ (h + m)) (if lv S (h + m) = 0 then bex S R D H k σ (h + m) else brow S R D H k (h + m) (bex S R D H k σ (h + m)) R) _
    by_cases w : lv S (h + m) = 0
    · rw [if_pos w]; exact by_rf _ _
    · rw [if_neg w]
      have e := (bx_g (h := h + m) (r := 0) b.2 hk).2
      have g := brow_y (D := D) (r := 0) hR r6 h6 (by rw [e]; exact b.1) (Nat.lt_of_lt_of_le hk b.2.1) (show h + m < H by omega) w R (by omega)
      rw [b.2.2.1 k hk, (b.2.2.2 k hk).1, Nat.zero_add] at g
      exact g
theorem bst_s {k : Nat} (h : bn (bst S R D H k) ≤ k) : ∀ m, bst S R D H (k + m) = bst S R D H k
  | 0 => rfl
  | m + 1 => by
    have ih := bst_s h m
    show (if k + m < bn (bst S R D H (k + m)) then bex S R D H (k + m) (bst S R D H (k + m)) H else bst S R D H (k + m)) = _
    rw [ih, if_neg (by omega)]
/-- the mark of the class -/
def mkf (S : Nat → Int32) (σ : Bq) (s : Nat) : Nat := if bfr σ s = 0 then 0 else if bfr σ s = 1 then 1 else 2 + 6 * lc S (bb σ s / 6) + bb σ s % 6
theorem mkf_0 {σ : Bq} {s : Nat} : mkf S σ s = 0 ↔ bfr σ s = 0 := by
  unfold mkf
  by_cases w : bfr σ s = 0
  · rw [if_pos w]; exact ⟨fun _ => w, fun _ => rfl⟩
  · rw [if_neg w]
    refine ⟨fun z => ?_, fun z => absurd z w⟩
    split at z <;> omega
/-- one marked more -/
theorem aq_app {c : Cl} {P Pq N Z n t v : Nat} {f f' u u' : Nat → Nat} (h : AQ c P Pq N Z f n u) (ht : t < N) (hz : f t = 0) (hv : v ≠ 0) (hf : ∀ s, s < N → f' s = if s = t then v else f s) (hu : ∀ j, j < n → u' j = u j) (hn : u' n = t) {c' : Cl} (hb : cB c' 0 P = vp_updL (cB c 0 P) t (lN v)) (ha : cA c' 0 Pq = upd (cA c 0 Pq) n (nI t)) : AQ c' P Pq N Z f' (n + 1) u' := by
  obtain ⟨a, b, e, g, i⟩ := h
  have ns : ∀ k, k < n → u k ≠ t := fun k hk w => (e k hk).2.2 (by rw [w]; exact hz)
  refine ⟨fun s hs => ?_, fun s h1 h2 => ?_, fun j hj => ?_, fun x y hx hy z => ?_, fun s hs z => ?_⟩
  · rw [hb, hf s hs]
    by_cases w : s = t
    · rw [w, pk_uLs, if_pos rfl]
    · rw [pk_uLn w, if_neg w]; exact a s hs
  · rw [hb, pk_uLn (by omega)]; exact b s h1 h2
  · rw [ha]
    by_cases w : j = n
    · rw [w, pk_us, hn]; exact ⟨rfl, ht, by rw [hf t ht, if_pos rfl]; exact hv⟩
    · rw [pk_un w, hu j (by omega)]
      obtain ⟨x1, x2, x3⟩ := e j (by omega)
      exact ⟨x1, x2, by rw [hf _ x2, if_neg (ns j (by omega))]; exact x3⟩
  · by_cases w : x = n
    · by_cases w2 : y = n
      · omega
      · rw [w, hn, hu y (by omega)] at z; exact absurd z.symm (ns y (by omega))
    · by_cases w2 : y = n
      · rw [w2, hn, hu x (by omega)] at z; exact absurd z (ns x (by omega))
      · rw [hu x (by omega), hu y (by omega)] at z; exact g x y (by omega) (by omega) z
  · by_cases w : s = t
    · exact ⟨n, Nat.lt_succ_self _, by rw [hn, w]⟩
    · rw [hf s hs, if_neg w] at z
      obtain ⟨j, hj, ej⟩ := i s hs z
      exact ⟨j, by omega, by rw [hu j hj]; exact ej⟩
end Bfs2
section Seek
variable {c1 c6 c7 c8 c13 : Cl} {d : Ad} {sc sr st : Nat} {S : Nat → Int32} {R D H Q M L E : Nat} {K : Nat → Nat}
theorem laN_cg {q q' : Nat → Nat} {r : Nat} (h : ∀ k, k < H → ¬ lv S k = 0 → q k = q' k) : laN S H q r = laN S H q' r := sn_cg fun k hk => by
  by_cases w : lv S k = 0
  · rw [if_pos w, if_pos w]
  · rw [if_neg w, if_neg w, h k hk w]
/-- halves in a room behind a going -/
theorem laN_mv {q : Nat → Nat} {h r x : Nat} (hh : h < H) (hl : ¬ lv S h = 0) : laN S H (mv q h r) x + (if q h = x then hv S h else 0) = laN S H q x + (if r = x then hv S h else 0) := by
  have up := sn_up (f := fun k => if lv S k = 0 then 0 else if q k = x then hv S k else 0) (i := h) (v := if r = x then hv S h else 0) hh
  rw [if_neg hl] at up
  have e : laN S H (mv q h r) x = sn (fun j => if j = h then (if r = x then hv S h else 0) else if lv S j = 0 then 0 else if q j = x then hv S j else 0) H := sn_cg fun k _ => by
    unfold mv
    by_cases w : k = h
    · subst w; rw [if_neg hl, if_pos rfl, if_pos rfl]
    · rw [if_neg w, if_neg w]
  rw [e]; exact up
theorem laN_tg (hR : 0 < R) {s h r x : Nat} (hr : r < R) (hh : h < H) (hl : ¬ lv S h = 0) : laN S H (qs S R H (tg S R H s h r)) x + (if qs S R H s h = x then hv S h else 0) = laN S H (qs S R H s) x + (if r = x then hv S h else 0) := by
  rw [laN_cg (q := qs S R H (tg S R H s h r)) (q' := mv (qs S R H s) h r) (fun k hk hl' => qs_kc hR (mv_ok (qs_ok hR s) hr) hk hl')]
  exact laN_mv hh hl
theorem f_78 {s i r rm x : Nat} (hS : SR c1 c8 st S R D H Q M L E K) (hR0 : 0 < R) (hC : SC c6 sc S R D H Q) (hA : AT c6 sc S R H (qs S R H s)) (e7 : cR c7 0 sr = sc) (e11 : cI c7 11 sr = nI rm) (e12 : cI c7 12 sr = nI x) (hrm : rm < R) (hx : x < 100) (hi : i < lc S H) (hr : r < R) : F_78 c6 c7 sr (nI i) (nI r) = some (if laN S H (qs S R H (tg S R H s (nbf S H i) r)) rm = x then 1 else 0) := by
  obtain ⟨⟨-, -, r6⟩, -, ⟨-, -, h6⟩, -⟩ := id hS.1.1
  have ll := lc_le S H
  obtain ⟨b1, b2, b3⟩ := nbf_ok hi
  obtain ⟨v1, v2, v3⟩ := hv_nI hS b1
  have ql := qs_ok (S := S) (H := H) hR0 s _ b1 b2
  have l24 := laN_24 hS (q := qs S R H s) (r := rm)
  have t24 := laN_24 hS (q := qs S R H (tg S R H s (nbf S H i) r)) (r := rm)
  have key := laN_tg (S := S) (s := s) (x := rm) hR0 hr b1 b2
  have e5 : ald (cA c6 5 sc) 6 (nI i) = some (nI (hv S (nbf S H i))) := (ald_ok (by omega) (by decide)).trans (by rw [(hC.2.2.2.1 i hi).2.1, v1])
  unfold F_78
  rw [e7, e11, e12]
  refine ob_mk (v := nI (laN S H (qs S R H s) rm)) ((ald_ok (by omega) (by decide)).trans (by rw [hA.2 rm hrm, la_nI hS (qs_ok hR0 s) hrm])) ?_
  refine ob_mk (v := nI (laN S H (qs S R H s) rm + (if r = rm then hv S (nbf S H i) else 0))) ?_ (ob_mk (v := nI (qs S R H s (nbf S H i))) ((ald_ok (by omega) (by decide)).trans (by rw [hA.1 i hi])) (ob_mk (v := nI (laN S H (qs S R H (tg S R H s (nbf S H i) r)) rm)) ?_ (ob_mk (v := if laN S H (qs S R H (tg S R H s (nbf S H i) r)) rm = x then 1 else 0) ?_ ?_)))
  · by_cases y : r = rm
    · rw [if_pos y, if_pos (by rw [y])]
      exact ob_mk e5 (by rw [nI_add])
    · rw [if_neg y, if_neg (fun z => y ((nI_eq (by omega) (by omega)).mp z)), Nat.add_zero]
  · rw [← key]
    by_cases y : qs S R H s (nbf S H i) = rm
    · rw [if_pos y, if_pos (by rw [y])]
      exact ob_mk e5 (by rw [pk_sub (by omega)]; congr 2; omega)
    · rw [if_neg y, if_neg (fun z => y ((nI_eq (by omega) (by omega)).mp z)), Nat.add_zero]
  · by_cases y : laN S H (qs S R H (tg S R H s (nbf S H i) r)) rm = x
    · rw [if_pos y, if_pos (by rw [y])]
    · rw [if_neg y, if_neg (fun z => y ((nI_eq (by omega) (by omega)).mp z))]
  · split <;> rfl
/-- what is found goes into the search's numbers -/
theorem f_79 {lvl g : Nat} (hC : SC c6 sc S R D H Q) (e7 : cR c7 0 sr = sc) (h6 : H ≤ 6) (g36 : g < 64) (hg : g / 6 < H) (hl : ¬ lv S (g / 6) = 0) : Rn (F_79 c6 c7 sr (nI lvl) (lN (2 + 6 * lc S (g / 6) + g % 6))) (fun r => Kp [8, 9, 10] c7 r ∧ Oth sr c7 r ∧ cI r 8 sr = nI lvl ∧ cI r 9 sr = nI (g / 6) ∧ cI r 10 sr = nI (g % 6)) := by
  have l1 := lc_lt hg hl
  have ll := lc_le S H
  unfold F_79
  refine rn_s ?_
  have e0 : (lN (2 + 6 * lc S (g / 6) + g % 6)).toInt32 - 2 = nI (6 * lc S (g / 6) + g % 6) := by
    rw [lN_i]
    have := pk_sub (a := 2 + 6 * lc S (g / 6) + g % 6) (b := 2) (by omega)
    rw [show 2 + 6 * lc S (g / 6) + g % 6 - 2 = 6 * lc S (g / 6) + g % 6 by omega] at this
    exact this
  have m6 : g % 6 < 6 := Nat.mod_lt _ (by decide)
  rw [e0]
  refine rn_e (v := nI (lc S (g / 6))) ?_ ?_
  · unfold idv
    rw [if_neg (by decide)]
    refine (congrArg some (pk_div (a := 6 * lc S (g / 6) + g % 6) (d := 6) (by omega) (by decide) (by decide))).trans ?_
    congr 2; omega
  · rw [show cR (sI c7 8 sr (nI lvl)) 0 sr = sc from e7]
    refine rn_e (v := nI (g / 6)) ((ald_ok (by omega) (by decide)).trans (by rw [(hC.2.2.2.1 _ l1).1, nbf_lc hg hl])) (rn_s (rn_e (v := nI (g % 6)) ?_ (rn_s (rn_r ⟨kp_tr (kp_I (by decide)) (kp_tr (kp_I (by decide)) (kp_I (by decide))), oth_tr oth_I (oth_tr oth_I oth_I), ?_, ?_, ?_⟩))))
    · refine (irm_ok (x := 6 * lc S (g / 6) + g % 6) (y := 6) (by omega) (by decide) (by decide)).trans ?_
      congr 2; omega
    · simp only [cI_sI, cI_sJ, cI_sR, cI_sA, cI_sB, cI_sQ, cR_sI, cR_sJ, cR_sR, cR_sA, cR_sB, cR_sQ, cA_sI, cA_sJ, cA_sR, cA_sA, cA_sB, cA_sQ, Nat.reduceEqDiff, false_and, and_false, and_true, true_and, if_false, if_true, and_self, ↓reduceIte]
    · simp only [cI_sI, cI_sJ, cI_sR, cI_sA, cI_sB, cI_sQ, cR_sI, cR_sJ, cR_sR, cR_sA, cR_sB, cR_sQ, cA_sI, cA_sJ, cA_sR, cA_sA, cA_sB, cA_sQ, Nat.reduceEqDiff, false_and, and_false, and_true, true_and, if_false, if_true, and_self, ↓reduceIte]
    · simp only [cI_sI, cI_sJ, cI_sR, cI_sA, cI_sB, cI_sQ, cR_sI, cR_sJ, cR_sR, cR_sA, cR_sB, cR_sQ, cA_sI, cA_sJ, cA_sR, cA_sA, cA_sB, cA_sQ, Nat.reduceEqDiff, false_and, and_false, and_true, true_and, if_false, if_true, and_self, ↓reduceIte]
/-- whether a number is a sum of some -/
theorem gl_75 {x : Nat} {sel : Nat → Bool} {l : Nat} {hq : Nat → Nat} (l6 : l ≤ 6) (e0 : cI c6 1 (cR c7 0 sr) = nI l) (e5 : ∀ i, i < l → cA c6 5 (cR c7 0 sr) i = nI (hq i) ∧ hq i ≤ 4) (hx : sn (fun i => if sel i = true then hq i else 0) l = x) : ∀ (m i : Nat) (y : Int32), i + m = l → bt y (sn (fun i => if sel i = true then hq i else 0) i) = true → G_75 c6 c7 sr 0 [nI x, y, nI i] [] [] = some 1
  | 0, i, y, hi, hb => by
    have : i = l := by omega
    subst this
    have b := sn_le (f := fun i => if sel i = true then hq i else 0) (g := fun _ => 4) (n := i) (fun j hj => by show (if sel j = true then hq j else 0) ≤ 4; have := (e5 j hj).2; split <;> omega)
    rw [sn_k] at b
    rw [hx] at hb b
    rw [G_75, e0]
    refine in_pos (nI_le (Nat.le_refl _) (by omega)) (ob_mk (v := 1) (in_neg (show ¬ (25 : Int32) ≤ nI x from nI_ge (a := x) (b := 25) (by omega) (by decide)) (in_pos (bit1_if.mpr ?_) rfl)) rfl)
    rw [bit1_bt (by omega), if_pos hb]; decide
  | m + 1, i, y, hi, hb => by
    have b := sn_le (f := fun i => if sel i = true then hq i else 0) (g := fun _ => 4) (n := i) (fun j hj => by show (if sel j = true then hq j else 0) ≤ 4; have := (e5 j (by omega)).2; split <;> omega)
    rw [sn_k] at b
    obtain ⟨h1, h2⟩ := e5 i (by omega)
    rw [G_75, e0]
    refine in_neg (nI_ge (by omega) (by omega)) (ob_mk (ald_ok (by omega) (by decide)) ?_)
    rw [h1, nI_1]
    refine gl_75 l6 e0 e5 hx m (i + 1) _ (by omega) ?_
    show bt _ (sn _ i + (if sel i = true then hq i else 0)) = true
    rw [b_or]
    by_cases w : sel i = true
    · rw [if_pos w, b_shl _ (by omega) _ (by omega)]
      have e : sn (fun i => if sel i = true then hq i else 0) i + hq i - hq i = sn (fun i => if sel i = true then hq i else 0) i := by omega
      rw [e, hb]
      simp
    · rw [if_neg w, Nat.add_zero, hb]; rfl
theorem gl_75t {x : Nat} {l : Nat} (l6 : l ≤ 6) (e0 : cI c6 1 (cR c7 0 sr) = nI l) : ∀ (m i : Nat) (y : Int32), i + m = l → ∃ v, G_75 c6 c7 sr 0 [nI x, y, nI i] [] [] = some v ∧ (v = 0 ∨ v = 1)
  | 0, i, y, hi => by
    have : i = l := by omega
    subst this
    rw [G_75, e0, if_pos (nI_le (Nat.le_refl _) (by omega))]
    by_cases w : (25 : Int32) ≤ nI x
    · rw [if_pos w]; exact ⟨0, rfl, Or.inl rfl⟩
    · rw [if_neg w]
      by_cases u : ((y >>> (nI x &&& 31)) &&& 1) = 1
      · rw [if_pos u]; exact ⟨1, rfl, Or.inr rfl⟩
      · rw [if_neg u]; exact ⟨0, rfl, Or.inl rfl⟩
  | m + 1, i, y, hi => by
    obtain ⟨v, h1, h2⟩ := gl_75t (x := x) l6 e0 m (i + 1) (y ||| (y <<< (cA c6 5 (cR c7 0 sr) i &&& 31))) (by omega)
    refine ⟨v, ?_, h2⟩
    rw [G_75, e0]
    refine in_neg (nI_ge (by omega) (by omega)) (ob_mk (ald_ok (by omega) (by decide)) ?_)
    rw [nI_1]; exact h1
theorem f_75 {x : Nat} (hS : SR c1 c8 st S R D H Q M L E K) (hC : SC c6 sc S R D H Q) (e7 : cR c7 0 sr = sc) : ∃ v, F_75 c6 c7 sr (nI x) = some v ∧ (v = 0 ∨ v = 1) ∧ (v = 0 → ∀ (q : Nat → Nat) (r : Nat), laN S H q r ≠ x) := by
  have ll := lc_le S H
  have h6 := hS.1.1.2.2.1.2.2
  have e0 : cI c6 1 (cR c7 0 sr) = nI (lc S H) := by rw [e7]; exact hC.2.1
  obtain ⟨v, h1, h2⟩ := gl_75t (c6 := c6) (c7 := c7) (sr := sr) (x := x) (by omega) e0 (lc S H) 0 1 (by omega)
  refine ⟨v, h1, h2, fun v0 q r hx => ?_⟩
  have e : sn (fun i => if decide (q (nbf S H i) = r) = true then hv S (nbf S H i) else 0) (lc S H) = x := by
    rw [← hx]
    refine Eq.trans ?_ (sn_lc (S := S) (f := fun h => if q h = r then hv S h else 0) (H := H) (n := H) (Nat.le_refl _))
    exact sn_cg fun i _ => by simp
  have g := gl_75 (c6 := c6) (c7 := c7) (sr := sr) (x := x) (sel := fun i => decide (q (nbf S H i) = r)) (hq := fun i => hv S (nbf S H i)) (by omega) e0 (fun i hi => by
    obtain ⟨b1, b2, b3⟩ := nbf_ok hi
    obtain ⟨v1, v2, v3⟩ := hv_nI hS b1
    rw [e7]
    exact ⟨by rw [(hC.2.2.2.1 i hi).2.1, v1], v3⟩) e (lc S H) 0 1 (by omega) (show bt 1 0 = true by decide)
  rw [g] at h1
  cases h1
  exact absurd v0 (by decide)
end Seek
