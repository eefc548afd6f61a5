/-! ===== what situations sum up to: the class ===== -/
def laN (S : Nat → Int32) (H : Nat) (q : Nat → Nat) (r : Nat) : Nat := sn (fun h => if lv S h = 0 then 0 else if q h = r then hv S h else 0) H
/-- where one can be; how many with one count of a room; the most; the first room with the fewest -/
def fe (S : Nat → Int32) (R H : Nat) (f : Nat → Nat) (N h r : Nat) : Bool := anyb (fun s => decide (¬ f s = 0) && decide (qs S R H s h = r)) N
def ga (S : Nat → Int32) (R H : Nat) (f : Nat → Nat) (N r x : Nat) : Nat := sn (fun s => if f s = 0 then 0 else if laN S H (qs S R H s) r = x then 1 else 0) N
def mal (g : Nat → Nat) : Nat → Nat
  | 0 => 0
  | n + 1 => if mal g n < g n then g n else mal g n
def bs2 (ma : Nat → Nat) : Nat → Nat × Nat
  | 0 => (0, ma 0)
  | r + 1 => if ma (r + 1) < (bs2 ma r).2 then (r + 1, ma (r + 1)) else bs2 ma r
theorem mal_cg {g g' : Nat → Nat} : ∀ {n : Nat}, (∀ i, i < n → g i = g' i) → mal g n = mal g' n
  | 0, _ => rfl
  | n + 1, h => by
    show (if mal g n < g n then g n else mal g n) = (if mal g' n < g' n then g' n else mal g' n)
    rw [mal_cg (fun i z => h i (by omega)), h n (by omega)]
theorem mal_le {g : Nat → Nat} {B : Nat} : ∀ {n : Nat}, (∀ i, i < n → g i ≤ B) → mal g n ≤ B
  | 0, _ => Nat.zero_le _
  | n + 1, h => by
    have := mal_le (g := g) (B := B) (n := n) (fun i z => h i (by omega))
    have := h n (by omega)
    show (if mal g n < g n then g n else mal g n) ≤ B
    split <;> omega
theorem bs2_cg {m m' : Nat → Nat} : ∀ {n : Nat}, (∀ i, i ≤ n → m i = m' i) → bs2 m n = bs2 m' n
  | 0, h => by show (0, m 0) = (0, m' 0); rw [h 0 (Nat.le_refl _)]
  | n + 1, h => by
    show (if m (n + 1) < (bs2 m n).2 then (n + 1, m (n + 1)) else bs2 m n) = (if m' (n + 1) < (bs2 m' n).2 then (n + 1, m' (n + 1)) else bs2 m' n)
    rw [bs2_cg (fun i z => h i (by omega)), h (n + 1) (Nat.le_refl _)]
theorem bs2_le {m : Nat → Nat} {B : Nat} : ∀ {n : Nat}, (∀ i, i ≤ n → m i ≤ B) → (bs2 m n).1 ≤ n ∧ (bs2 m n).2 ≤ B
  | 0, h => ⟨Nat.le_refl _, h 0 (Nat.le_refl _)⟩
  | n + 1, h => by
    have ih := bs2_le (m := m) (B := B) (n := n) (fun i z => h i (by omega))
    have := h (n + 1) (Nat.le_refl _)
    show (if m (n + 1) < (bs2 m n).2 then (n + 1, m (n + 1)) else bs2 m n).1 ≤ n + 1 ∧ (if m (n + 1) < (bs2 m n).2 then (n + 1, m (n + 1)) else bs2 m n).2 ≤ B
    split
    · exact ⟨Nat.le_refl _, this⟩
    · exact ⟨by omega, ih.2⟩
section Sum
variable {c1 c6 c7 c8 c10 c13 : Cl} {d : Ad} {sc sr st w : Nat} {S : Nat → Int32} {R D H Q M L E : Nat} {K : Nat → Nat}
theorem la_nI (hS : SR c1 c8 st S R D H Q M L E K) {q : Nat → Nat} (hq : Qok S R H q) {r : Nat} (hr : r < R) : la S H q (nI r) = nI (laN S H q r) := by
  have r6 := hS.1.1.1.2.2
  unfold la laN
  refine su_nI fun h hh => ?_
  by_cases w : lv S h = 0
  · rw [if_pos w, if_pos w]; rfl
  · rw [if_neg w, if_neg w]
    have := hq h hh w
    unfold la1
    by_cases u : q h = r
    · rw [if_pos u, if_pos (by rw [u])]; exact (hv_nI hS hh).1
    · rw [if_neg u, if_neg (fun z => u ((nI_eq (by omega) (by omega)).mp z))]; rfl
theorem laN_24 (hS : SR c1 c8 st S R D H Q M L E K) {q : Nat → Nat} {r : Nat} : laN S H q r ≤ 24 := by
  have h6 := hS.1.1.2.2.1.2.2
  refine Nat.le_trans (sn_le (g := fun _ => 4) fun h hh => ?_) (by rw [sn_k]; omega)
  have := (hv_nI hS hh).2.2
  split
  · omega
  · split <;> omega
/-- ends and groups -/
def EN (c7 : Cl) (sr : Nat) (S : Nat → Int32) (R H : Nat) (e : Nat → Nat → Bool) (g : Nat → Nat → Nat) : Prop := (∀ h, h < H → ¬ lv S h = 0 → cA c7 6 sr h = nI (mk (e h) R)) ∧ (∀ r x, r < R → x < 25 → cA c7 7 sr (r * 25 + x) = nI (g r x))
theorem gl_64b {s : Nat} {c0 : Cl} {e : Nat → Nat → Bool} {g : Nat → Nat → Nat} (hS : SR c1 c8 st S R D H Q M L E K) (hR0 : 0 < R) (hC : SC c6 sc S R D H Q) (hA : AT c6 sc S R H (qs S R H s)) (e7 : cR c0 0 sr = sc) : ∀ (m r : Nat) (c' : Cl), r + m = R → Kp [6, 7] c0 c' → Oth sr c0 c' → EN c' sr S R H e (fun r' x => if r' < r then g r' x + (if laN S H (qs S R H s) r' = x then 1 else 0) else g r' x) → Rn (G_64 c6 sr 1 [nI r] [] [] c') (fun q => q.1 = c6 ∧ Kp [6, 7] c0 q.2 ∧ Oth sr c0 q.2 ∧ EN q.2 sr S R H e (fun r' x => g r' x + (if laN S H (qs S R H s) r' = x then 1 else 0)))
  | 0, r, c', hr, hK, hO, h1 => by
    have : r = R := by omega
    subst this
    have r6 := hS.1.1.1.2.2
    have e0 : cR c' 0 sr = sc := by rw [(hK 0 (by decide)).2.2.1]; exact e7
    rw [G_64, e0, hC.1]
    refine rn_p (nI_le (Nat.le_refl _) (by omega)) (rn_r ⟨rfl, hK, hO, h1.1, fun r' x h2 h3 => ?_⟩)
    have z := h1.2 r' x h2 h3
    dsimp only at z ⊢
    rw [z, if_pos h2]
  | m + 1, r, c', hr, hK, hO, h1 => by
    have r6 := hS.1.1.1.2.2
    have e0 : cR c' 0 sr = sc := by rw [(hK 0 (by decide)).2.2.1]; exact e7
    have l24 := laN_24 hS (q := qs S R H s) (r := r)
    have ix : nI r * 25 + nI (laN S H (qs S R H s) r) = nI (r * 25 + laN S H (qs S R H s) r) := by rw [show nI r * (25 : Int32) = nI (r * 25) from pk_mul r 25, nI_add]
    have old := h1.2 r (laN S H (qs S R H s) r) (by omega) (by omega)
    dsimp only at old
    rw [if_neg (Nat.lt_irrefl _)] at old
    rw [G_64, e0, hC.1]
    refine rn_n (nI_ge (by omega) (by omega)) (rn_ld (by omega) (by decide) ?_)
    rw [hA.2 r (by omega), la_nI hS (qs_ok hR0 s) (by omega), ix]
    refine rn_ld (by omega) (by decide) (rn_st (by omega) (by decide) ?_)
    rw [nI_1]
    refine gl_64b hS hR0 hC hA e7 m (r + 1) _ (by omega) (kp_tr hK (kp_A (by decide))) (oth_tr hO oth_A) ⟨fun h hh hl => ?_, fun r' x h2 h3 => ?_⟩
    · rw [cA_ne (by decide)]; exact h1.1 h hh hl
    · have z := h1.2 r' x h2 h3
      dsimp only at z ⊢
      rw [cA_same]
      by_cases v : r' = r
      · subst v
        rw [if_pos (Nat.lt_succ_self _)]
        by_cases y : laN S H (qs S R H s) r' = x
        · rw [y] at old ⊢
          rw [pk_us, if_pos rfl, old, nI_1]
        · rw [pk_un (by omega), if_neg y, Nat.add_zero, z, if_neg (Nat.lt_irrefl _)]
      · rw [pk_un (by omega), z]
        by_cases y : r' < r
        · rw [if_pos y, if_pos (show r' < r + 1 by omega)]
        · rw [if_neg y, if_neg (show ¬ r' < r + 1 by omega)]
theorem gl_64a {s : Nat} {c0 : Cl} {e : Nat → Nat → Bool} {g : Nat → Nat → Nat} (hS : SR c1 c8 st S R D H Q M L E K) (hR0 : 0 < R) (hC : SC c6 sc S R D H Q) (hA : AT c6 sc S R H (qs S R H s)) (e7 : cR c0 0 sr = sc) : ∀ (m i : Nat) (c' : Cl), i + m = lc S H → Kp [6, 7] c0 c' → Oth sr c0 c' → EN c' sr S R H (fun h r => if lc S h < i then e h r || decide (r = qs S R H s h) else e h r) g → Rn (G_64 c6 sr 0 [nI i] [] [] c') (fun q => q.1 = c6 ∧ Kp [6, 7] c0 q.2 ∧ Oth sr c0 q.2 ∧ EN q.2 sr S R H (fun h r => e h r || decide (r = qs S R H s h)) (fun r' x => g r' x + (if laN S H (qs S R H s) r' = x then 1 else 0)))
  | 0, i, c', hi, hK, hO, h1 => by
    have : i = lc S H := by omega
    subst this
    have ll := lc_le S H
    have h6 := hS.1.1.2.2.1.2.2
    have e0 : cR c' 0 sr = sc := by rw [(hK 0 (by decide)).2.2.1]; exact e7
    rw [G_64, e0, hC.2.1]
    refine rn_p (nI_le (Nat.le_refl _) (by omega)) (gl_64b (c0 := c0) hS hR0 hC hA e7 R 0 c' (by omega) hK hO ⟨fun h hh hl => ?_, fun r' x h2 h3 => ?_⟩)
    · rw [h1.1 h hh hl]
      congr 1
      exact mk_cg fun r _ => if_pos (lc_lt hh hl)
    · rw [h1.2 r' x h2 h3]; exact congrArg nI (if_neg (Nat.not_lt_zero _)).symm
  | m + 1, i, c', hi, hK, hO, h1 => by
    have ll := lc_le S H
    obtain ⟨⟨-, -, r6⟩, -, ⟨-, -, h6⟩, -⟩ := id hS.1.1
    have e0 : cR c' 0 sr = sc := by rw [(hK 0 (by decide)).2.2.1]; exact e7
    obtain ⟨b1, b2, b3⟩ := nbf_ok (S := S) (n := H) (i := i) (by omega)
    have ql := qs_ok (S := S) (H := H) hR0 s _ b1 b2
    have old := h1.1 _ b1 b2
    rw [mk_cg (q := e (nbf S H i)) (fun r _ => if_neg (by rw [b3]; exact Nat.lt_irrefl _))] at old
    rw [G_64, e0, hC.2.1]
    refine rn_n (nI_ge (by omega) (by omega)) (rn_ld (by omega) (by decide) ?_)
    rw [(hC.2.2.2.1 i (by omega)).1]
    refine rn_ld (by omega) (by decide) (rn_ld (by omega) (by decide) ?_)
    rw [old, hA.1 i (by omega), mk_or1 (by omega) ql]
    refine rn_st (by omega) (by decide) ?_
    rw [nI_1]
    refine gl_64a hS hR0 hC hA e7 m (i + 1) _ (by omega) (kp_tr hK (kp_A (by decide))) (oth_tr hO oth_A) ⟨fun h hh hl => ?_, fun r' x h2 h3 => ?_⟩
    · rw [cA_same]
      by_cases v : h = nbf S H i
      · rw [v, pk_us]
        congr 1
        exact mk_cg fun r _ => (if_pos (by rw [b3]; exact Nat.lt_succ_self _)).symm
      · rw [pk_un v, h1.1 h hh hl]
        congr 1
        refine mk_cg fun r _ => ?_
        dsimp only
        have ne : lc S h ≠ i := fun z => v (by rw [← z, nbf_lc hh hl])
        by_cases y : lc S h < i
        · rw [if_pos y, if_pos (by omega)]
        · rw [if_neg y, if_neg (by omega)]
    · rw [cA_ne (by decide)]; exact h1.2 r' x h2 h3
theorem f_64 {s : Nat} {e : Nat → Nat → Bool} {g : Nat → Nat → Nat} (hS : SR c1 c8 st S R D H Q M L E K) (hR0 : 0 < R) (hC : SC c6 sc S R D H Q) (e7 : cR c7 0 sr = sc) (hs : s < R ^ lc S H) (h1 : EN c7 sr S R H e g) : Rn (F_64 c6 c7 sr (nI s)) (fun q => Kp [10, 11] c6 q.1 ∧ Oth sc c6 q.1 ∧ Kp [6, 7] c7 q.2 ∧ Oth sr c7 q.2 ∧ EN q.2 sr S R H (fun h r => e h r || decide (r = qs S R H s h)) (fun r' x => g r' x + (if laN S H (qs S R H s) r' = x then 1 else 0))) := by
  obtain ⟨⟨-, -, r6⟩, -, ⟨-, -, h6⟩, -⟩ := id hS.1.1
  unfold F_64
  rw [e7]
  have uf := unf_ok (c6 := c6) (sc := sc) (q := qs S R H s) r6 h6 (qs_ok hR0 s) hC
  have ee : cd R (fun j => qs S R H s (nbf S H j)) (lc S H) = s := kc_qs hR0 hs
  rw [ee] at uf
  refine rn_b uf (fun c6a ⟨k1, o1, a1⟩ => ?_)
  refine rn_m (gl_64a (c0 := c7) hS hR0 (SC_k k1 (by decide) hC) a1 e7 (lc S H) 0 c7 (by omega) (kp_rf _ _) (oth_rf _ _) ⟨fun h hh hl => ?_, h1.2⟩) (fun q ⟨a, b, c, f⟩ => ⟨by rw [a]; exact k1, by rw [a]; exact o1, b, c, f⟩)
  rw [h1.1 h hh hl]
  exact congrArg nI (mk_cg fun r _ => (if_neg (Nat.not_lt_zero _)).symm)
/-- the most with one count -/
theorem gl_65b {r : Nat} {g : Nat → Nat} {c' : Cl} (r6 : r < 6) (gb : ∀ x, x < 25 → g x ≤ 46656) (h1 : ∀ x, x < 25 → cA c' 7 sr (r * 25 + x) = nI (g x)) : ∀ (m x : Nat), x + m = 25 → G_65 c6 sr 1 [nI r, nI (mal g x), nI x] [] [] c' = G_65 c6 sr 1 [nI r, nI (mal g 25), 25] [] [] c'
  | 0, x, hx => by
    have : x = 25 := by omega
    subst this
    rfl
  | m + 1, x, hx => by
    have ih := gl_65b r6 gb h1 m (x + 1) (by omega)
    have ml := mal_le (g := g) (B := 46656) (n := x) (fun i hi => gb i (by omega))
    have gx := gb x (by omega)
    rw [← ih]
    conv => lhs; rw [G_65]
    rw [if_neg (show ¬ (25 : Int32) ≤ nI x from nI_ge (a := x) (b := 25) (by omega) (by decide)), show nI r * (25 : Int32) = nI (r * 25) from pk_mul r 25, nI_add, nI_1]
    refine ob_e (v := nI (g x)) ((ald_ok (by omega) (by decide)).trans (by rw [h1 x (by omega)])) ?_
    have e : imax (nI (mal g x)) (nI (g x)) = nI (mal g (x + 1)) := by
      show _ = nI (if mal g x < g x then g x else mal g x)
      unfold imax
      by_cases y : mal g x < g x
      · rw [if_pos y, if_neg (nI_ge y (by omega))]
      · rw [if_neg y, if_pos (nI_le (by omega) (by omega))]
    rw [e]
theorem gl_65a {g : Nat → Nat → Nat} {c0 : Cl} (hC : SC c6 sc S R D H Q) (r6 : R ≤ 6) (e7 : cR c0 0 sr = sc) (gb : ∀ r x, r < R → x < 25 → g r x ≤ 46656) (h1 : ∀ r x, r < R → x < 25 → cA c0 7 sr (r * 25 + x) = nI (g r x)) : ∀ (m r : Nat) (c' : Cl), r + m = R → 0 < r → Kp [4, 5] c0 c' → Oth sr c0 c' → cI c' 4 sr = nI (bs2 (fun r => mal (g r) 25) (r - 1)).1 → cI c' 5 sr = nI (bs2 (fun r => mal (g r) 25) (r - 1)).2 → Rn (G_65 c6 sr 0 [nI r] [] [] c') (fun q => Kp [4, 5] c0 q ∧ Oth sr c0 q ∧ cI q 4 sr = nI (bs2 (fun r => mal (g r) 25) (R - 1)).1 ∧ cI q 5 sr = nI (bs2 (fun r => mal (g r) 25) (R - 1)).2)
  | 0, r, c', hr, r0, hK, hO, h2, h3 => by
    have : r = R := by omega
    subst this
    have e0 : cR c' 0 sr = sc := by rw [(hK 0 (by decide)).2.2.1]; exact e7
    rw [G_65, e0, hC.1]
    exact rn_p (nI_le (Nat.le_refl _) (by omega)) (rn_r ⟨hK, hO, h2, h3⟩)
  | m + 1, r, c', hr, r0, hK, hO, h2, h3 => by
    have e0 : cR c' 0 sr = sc := by rw [(hK 0 (by decide)).2.2.1]; exact e7
    obtain ⟨r', er⟩ : ∃ r', r = r' + 1 := ⟨r - 1, by omega⟩
    subst er
    rw [show r' + 1 - 1 = r' by omega] at h2 h3
    have mb : ∀ i, i < R → mal (g i) 25 ≤ 46656 := fun i hi => mal_le (fun x hx => gb i x hi hx)
    have bl := bs2_le (m := fun r => mal (g r) 25) (B := 46656) (n := r') (fun i hi => mb i (by omega))
    have mr := mb (r' + 1) (by omega)
    rw [G_65, e0, hC.1]
    refine rn_n (nI_ge (by omega) (by omega)) ?_
    have b := gl_65b (c6 := c6) (sr := sr) (r := r' + 1) (g := g (r' + 1)) (c' := c') (by omega) (fun x hx => gb _ x (by omega) hx) (fun x hx => by rw [(hK 7 (by decide)).2.2.2.1]; exact h1 _ x (by omega) hx) 25 0 rfl
    have b' : G_65 c6 sr 1 [nI (r' + 1), 0, 0] [] [] c' = _ := b
    rw [b', G_65]
    refine rn_p (by decide) (rn_b (P := fun t => Kp [4, 5] c0 t ∧ Oth sr c0 t ∧ cI t 4 sr = nI (bs2 (fun r => mal (g r) 25) (r' + 1)).1 ∧ cI t 5 sr = nI (bs2 (fun r => mal (g r) 25) (r' + 1)).2) ?_ (fun t ⟨t1, t2, t3, t4⟩ => by rw [nI_1]; exact gl_65a hC r6 e7 gb h1 m (r' + 1 + 1) t (by omega) (by omega) t1 t2 t3 t4))
    rw [h2, h3]
    refine rn_n (fun z => absurd z (by
      intro z
      have : nI (bs2 (fun r => mal (g r) 25) r').1 < 0 := by rw [z]; decide
      exact nI_pos (by omega) this)) ?_
    show Rn _ (fun t => Kp [4, 5] c0 t ∧ Oth sr c0 t ∧ cI t 4 sr = nI (if mal (g (r' + 1)) 25 < (bs2 (fun r => mal (g r) 25) r').2 then (r' + 1, mal (g (r' + 1)) 25) else bs2 (fun r => mal (g r) 25) r').1 ∧ cI t 5 sr = nI (if mal (g (r' + 1)) 25 < (bs2 (fun r => mal (g r) 25) r').2 then (r' + 1, mal (g (r' + 1)) 25) else bs2 (fun r => mal (g r) 25) r').2)
    by_cases y : mal (g (r' + 1)) 25 < (bs2 (fun r => mal (g r) 25) r').2
    · rw [if_pos y]
      refine rn_n (nI_ge y (by omega)) (rn_s (rn_s (rn_r ⟨kp_tr hK (kp_tr (kp_I (by decide)) (kp_I (by decide))), oth_tr hO (oth_tr oth_I oth_I), ?_, ?_⟩)))
      · simp only [cI_sI, cI_sJ, cI_sR, cI_sA, cI_sB, cI_sQ, cR_sI, cR_sJ, cR_sR, cR_sA, cR_sB, cR_sQ, cA_sI, cA_sJ, cA_sR, cA_sA, cA_sB, cA_sQ, Nat.reduceEqDiff, false_and, and_false, and_true, true_and, if_false, if_true, and_self, ↓reduceIte]
      · simp only [cI_sI, cI_sJ, cI_sR, cI_sA, cI_sB, cI_sQ, cR_sI, cR_sJ, cR_sR, cR_sA, cR_sB, cR_sQ, cA_sI, cA_sJ, cA_sR, cA_sA, cA_sB, cA_sQ, Nat.reduceEqDiff, false_and, and_false, and_true, true_and, if_false, if_true, and_self, ↓reduceIte]
    · rw [if_neg y]
      exact rn_p (nI_le (by omega) (by omega)) (rn_r ⟨hK, hO, h2, h3⟩)
theorem f_65 {g : Nat → Nat → Nat} (hC : SC c6 sc S R D H Q) (hR0 : 0 < R) (r6 : R ≤ 6) (e7 : cR c7 0 sr = sc) (gb : ∀ r x, r < R → x < 25 → g r x ≤ 46656) (h1 : ∀ r x, r < R → x < 25 → cA c7 7 sr (r * 25 + x) = nI (g r x)) : Rn (F_65 c6 c7 sr) (fun q => Kp [4, 5] c7 q ∧ Oth sr c7 q ∧ cI q 4 sr = nI (bs2 (fun r => mal (g r) 25) (R - 1)).1 ∧ cI q 5 sr = nI (bs2 (fun r => mal (g r) 25) (R - 1)).2) := by
  unfold F_65
  refine rn_s ?_
  have e0 : cR (sI c7 4 sr (-1)) 0 sr = sc := e7
  rw [G_65, e0, hC.1]
  refine rn_n (show ¬ nI R ≤ 0 from nI_nle hR0 (by omega)) ?_
  have b := gl_65b (c6 := c6) (sr := sr) (r := 0) (g := g 0) (c' := sI c7 4 sr (-1)) (by omega) (fun x hx => gb _ x hR0 hx) (fun x hx => by rw [cA_sI]; exact h1 _ x hR0 hx) 25 0 rfl
  have b' : G_65 c6 sr 1 [0, 0, 0] [] [] (sI c7 4 sr (-1)) = G_65 c6 sr 1 [0, nI (mal (g 0) 25), 25] [] [] (sI c7 4 sr (-1)) := b
  rw [b', G_65]
  refine rn_p (by decide) (rn_b (P := fun t => Kp [4, 5] c7 t ∧ Oth sr c7 t ∧ cI t 4 sr = nI (bs2 (fun r => mal (g r) 25) 0).1 ∧ cI t 5 sr = nI (bs2 (fun r => mal (g r) 25) 0).2) (rn_p (by rw [cI_same]) (rn_s (rn_s (rn_r ⟨kp_tr (kp_I (by decide)) (kp_tr (kp_I (by decide)) (kp_I (by decide))), oth_tr oth_I (oth_tr oth_I oth_I), ?_, ?_⟩)))) (fun t ⟨t1, t2, t3, t4⟩ => gl_65a (c0 := c7) hC r6 e7 gb h1 (R - 1) 1 t (by omega) (by omega) t1 t2 t3 t4))
  · simp only [cI_sI, cI_sJ, cI_sR, cI_sA, cI_sB, cI_sQ, cR_sI, cR_sJ, cR_sR, cR_sA, cR_sB, cR_sQ, cA_sI, cA_sJ, cA_sR, cA_sA, cA_sB, cA_sQ, Nat.reduceEqDiff, false_and, and_false, and_true, true_and, if_false, if_true, and_self, ↓reduceIte]; rfl
  · simp only [cI_sI, cI_sJ, cI_sR, cI_sA, cI_sB, cI_sQ, cR_sI, cR_sJ, cR_sR, cR_sA, cR_sB, cR_sQ, cA_sI, cA_sJ, cA_sR, cA_sA, cA_sB, cA_sQ, Nat.reduceEqDiff, false_and, and_false, and_true, true_and, if_false, if_true, and_self, ↓reduceIte]; rfl
end Sum
