/-! ===== leaving echoes ===== -/
/-- the first slot that is free -/
def frf (T : Nat → Int32) : Nat → Nat → Nat
  | 0, e => e
  | n + 1, e => if T (94 + 3 * e + 2) ≤ T 4 then e else frf T n (e + 1)
def fr (T : Nat → Int32) : Nat := frf T 6 0
theorem frf_ok (T : Nat → Int32) : ∀ n e, e ≤ frf T n e ∧ frf T n e ≤ e + n ∧ (∀ j, e ≤ j → j < frf T n e → ¬ T (94 + 3 * j + 2) ≤ T 4) ∧ (frf T n e < e + n → T (94 + 3 * frf T n e + 2) ≤ T 4)
  | 0, e => ⟨Nat.le_refl _, Nat.le_refl _, fun j a b => absurd b (Nat.not_lt.mpr a), fun q => absurd q (Nat.lt_irrefl _)⟩
  | n + 1, e => by
    unfold frf
    by_cases q : T (94 + 3 * e + 2) ≤ T 4
    · rw [if_pos q]
      exact ⟨Nat.le_refl _, by omega, fun j a b => absurd b (Nat.not_lt.mpr a), fun _ => q⟩
    · rw [if_neg q]
      obtain ⟨a, b, c, d⟩ := frf_ok T n (e + 1)
      refine ⟨by omega, by omega, fun j x y => ?_, fun z => d (by omega)⟩
      by_cases w : j = e
      · subst w; exact q
      · exact c j (by omega) y
def eS (T : Nat → Int32) (x y : Int32) : Nat → Int32 := if T 7 = 0 then T else if fr T < 6 then lvE T (fr T) x y else T
theorem up2_id {α : Type} (f : Nat → Nat → α) (k a : Nat) : up2 f k a (f k a) = f := by
  funext j b; unfold up2; split
  · rename_i h; rw [h.1, h.2]
  · rfl
theorem sA_id (c : Cl) (k a : Nat) : sA c k a (cA c k a) = c := by
  unfold sA cA; rw [up2_id]
theorem f_243 {c : Cl} {a : Nat} {x y : Int32} : F_243 c a x y = some (sA c 20 a (eS (cA c 20 a) x y)) := by
  unfold F_243 eS
  refine ob_mk (ald_ok (i := 7) (by decide) (by decide)) ?_
  by_cases q : cA c 20 a 7 = 0
  · rw [if_pos q, if_pos q, sA_id]
  · rw [if_neg q, if_neg q]
    obtain ⟨-, f1, f2, f3⟩ := frf_ok (cA c 20 a) 6 0
    refine (gl_243 (e := fr (cA c 20 a)) (by unfold fr; omega) (fun j z => f2 j (Nat.zero_le _) z) (fun z => f3 (by unfold fr at z; omega)) (fr (cA c 20 a)) 0 (by omega)).trans ?_
    by_cases w : fr (cA c 20 a) < 6
    · rw [if_pos w, if_pos w]
    · rw [if_neg w, if_neg w, sA_id]
theorem f_227 {c : Cl} {a R H M : Nat} (hR : cA c 20 a 0 = nI R) (r6 : R ≤ 6) (hH : cA c 20 a 2 = nI H) (h6 : H ≤ 6) (hM : cA c 20 a 4 = nI M) (hM2 : M < 2 ^ 30) : F_227 c a = some (sA c 20 a (kp (cA c 20 a) H (112 + 6 * (M % 12)) R)) := by
  unfold F_227
  have k0 : kp (cA c 20 a) H (112 + 6 * (M % 12)) 0 = cA c 20 a := by
    funext j; unfold kp; rw [if_neg (fun z => by omega)]
  have := gl_227 (c := c) (a := a) hR r6 hH h6 hM hM2 R 0 (by omega)
  rw [k0, sA_id] at this
  exact this
/-- how many are not free -/
def ac (T : Nat → Int32) : Nat → Nat
  | 0 => 0
  | n + 1 => ac T n + (if T (94 + 3 * n + 2) ≤ T 4 then 0 else 1)
theorem ac_su (T : Nat → Int32) : ∀ n, su (ef T (fun _ _ _ => 1)) n = nI (ac T n)
  | 0 => rfl
  | n + 1 => by
    show su (ef T (fun _ _ _ => 1)) n + ef T (fun _ _ _ => 1) n = nI (ac T n + (if T (94 + 3 * n + 2) ≤ T 4 then 0 else 1))
    rw [ac_su T n]
    unfold ef
    by_cases q : T (94 + 3 * n + 2) ≤ T 4
    · rw [if_pos q, if_pos q, Int32.add_zero]; rfl
    · rw [if_neg q, if_neg q]; exact nI_1 _
theorem ac_le (T : Nat → Int32) : ∀ n, ac T n ≤ n ∧ (ac T n = n → ∀ j, j < n → ¬ T (94 + 3 * j + 2) ≤ T 4) ∧ ((∀ j, j < n → ¬ T (94 + 3 * j + 2) ≤ T 4) → ac T n = n)
  | 0 => ⟨Nat.le_refl _, fun _ j q => by omega, fun _ => rfl⟩
  | n + 1 => by
    obtain ⟨a, b, c⟩ := ac_le T n
    show ac T n + (if T (94 + 3 * n + 2) ≤ T 4 then 0 else 1) ≤ n + 1 ∧ (ac T n + (if T (94 + 3 * n + 2) ≤ T 4 then 0 else 1) = n + 1 → _) ∧ (_ → ac T n + (if T (94 + 3 * n + 2) ≤ T 4 then 0 else 1) = n + 1)
    by_cases q : T (94 + 3 * n + 2) ≤ T 4
    · rw [if_pos q]
      exact ⟨by omega, fun z => by omega, fun z => absurd q (z n (by omega))⟩
    · rw [if_neg q]
      refine ⟨by omega, fun z j w => ?_, fun z => by rw [c (fun j w => z j (by omega))]⟩
      by_cases u : j = n
      · subst u; exact q
      · exact b (by omega) j (by omega)
theorem su_one : ∀ n, su (fun _ => (1 : Int32)) n = nI n
  | 0 => rfl
  | n + 1 => by show su (fun _ => (1 : Int32)) n + 1 = _; rw [su_one n]; exact nI_1 n
theorem se_ac {c8 : Cl} {st R E : Nat} {S : Nat → Int32} (h : SeR c8 st S R E) : E = ac S 6 := by
  have e := h.2.2.2 (fun _ _ _ => 1)
  rw [ac_su] at e
  have e2 : su (cf c8 st (fun _ _ _ => 1)) E = nI E := su_one E
  rw [e2] at e
  have := (ac_le S 6).1
  exact ((nI_eq (by omega) (by have := h.2.1; omega)).mp e).symm
theorem se_fr {c8 : Cl} {st R E : Nat} {S : Nat → Int32} (h : SeR c8 st S R E) : fr S < 6 ↔ E < 6 := by
  have e := se_ac h
  obtain ⟨-, f1, f2, f3⟩ := frf_ok S 6 0
  obtain ⟨a, b, c⟩ := ac_le S 6
  constructor
  · intro q
    refine Nat.lt_of_le_of_ne (by omega) (fun z => ?_)
    exact b (by omega) (fr S) q (f3 (by unfold fr at q; omega))
  · intro q
    refine Nat.lt_of_not_le (fun z => ?_)
    have := c (fun j w => f2 j (Nat.zero_le _) (by unfold fr at z; omega))
    omega
theorem su_ch {g g' : Nat → Int32} {e : Nat} {v : Int32} (h : ∀ j, j ≠ e → g' j = g j) (he : g' e = g e + v) : ∀ {n : Nat}, e < n → su g' n = su g n + v
  | 0, q => by omega
  | n + 1, q => by
    show su g' n + g' n = su g n + g n + v
    by_cases w : e = n
    · subst w
      rw [su_congr (g := g) (fun i hi => h i (by omega)), he, Int32.add_assoc]
    · rw [su_ch h he (show e < n by omega), h n (by omega), Int32.add_assoc, Int32.add_comm v, Int32.add_assoc]
theorem lvE_su {T : Nat → Int32} {e : Nat} {x y : Int32} (he : e < 6) (hf : T (94 + 3 * e + 2) ≤ T 4) (hn : ¬ T 4 + T 7 ≤ T 4) (f : Int32 → Int32 → Int32 → Int32) : su (ef (lvE T e x y) f) 6 = su (ef T f) 6 + f x y (T 4 + T 7) := by
  have l4 : lvE T e x y 4 = T 4 := by unfold lvE; rw [pk_un (by omega), pk_un (by omega), pk_un (by omega)]
  refine su_ch (e := e) (fun j q => ?_) ?_ he
  · unfold ef
    rw [l4]
    have e0 : lvE T e x y (94 + 3 * j) = T (94 + 3 * j) := by unfold lvE; rw [pk_un (by omega), pk_un (by omega), pk_un (by omega)]
    have e1 : lvE T e x y (94 + 3 * j + 1) = T (94 + 3 * j + 1) := by unfold lvE; rw [pk_un (by omega), pk_un (by omega), pk_un (by omega)]
    have e2 : lvE T e x y (94 + 3 * j + 2) = T (94 + 3 * j + 2) := by unfold lvE; rw [pk_un (by omega), pk_un (by omega), pk_un (by omega)]
    rw [e0, e1, e2]
  · unfold ef
    rw [l4, if_pos hf, Int32.zero_add]
    have e0 : lvE T e x y (94 + 3 * e) = x := by unfold lvE; rw [pk_un (by omega), pk_un (by omega), pk_us]
    have e1 : lvE T e x y (94 + 3 * e + 1) = y := by unfold lvE; rw [pk_un (by omega), pk_us]
    have e2 : lvE T e x y (94 + 3 * e + 2) = T 4 + T 7 := by unfold lvE; rw [pk_us]
    rw [e0, e1, e2, if_neg hn]
theorem eS_un {T : Nat → Int32} {x y : Int32} {j : Nat} (h : j < 94 ∨ 112 ≤ j) : eS T x y j = T j := by
  unfold eS
  split
  · rfl
  · split
    · unfold lvE; rw [pk_un (by omega), pk_un (by omega), pk_un (by omega)]
    · rfl
section Leave
variable {c1 c8 : Cl} {st : Nat} {S T : Nat → Int32} {R D H Q M L E : Nat} {K : Nat → Nat}
theorem f_94 {h x y : Nat} (hh : h < 6) (hx : x < R) (hy : y ≤ 4) (eL : cI c1 4 (cR c8 0 st) = nI L) (l9 : L ≤ 9) (hM : cI c8 1 st = nI M) (mm : M < 20000) (h4 : S 4 = nI M) (h7 : S 7 = nI L) (hS : SeR c8 st S R E) (a4 : cA c8 4 st h = nI x) (a8 : cA c1 8 (cR c8 0 st) h = nI y) : Rn (F_94 c1 c8 st (nI h)) (fun r => Kp [3, 8, 9, 10] c8 r ∧ Oth st c8 r ∧ ∃ E', SeR r st (eS S (nI x) (nI y)) R E') := by
  unfold F_94
  obtain ⟨s1, s2, s3, s4⟩ := id hS
  have fe := se_fr hS
  obtain ⟨-, f1, f2, f3⟩ := frf_ok S 6 0
  rw [eL, s1]
  by_cases q : L = 0
  · subst q
    refine rn_e (in_pos (by decide) rfl) (rn_r ⟨kp_rf _ _, oth_rf _ _, E, ?_⟩)
    unfold eS
    rw [h7, if_pos (show nI 0 = 0 from rfl)]
    exact hS
  · have n7 : ¬ S 7 = 0 := by rw [h7]; exact nI_ne0 (by omega) (by omega)
    by_cases w : E < 6
    · refine rn_b (P := fun t => t = sI (sA (sA (sA c8 8 st (upd (cA c8 8 st) E (nI x))) 9 st (upd (cA c8 9 st) E (nI y))) 10 st (upd (cA c8 10 st) E (nI (M + L)))) 3 st (nI (E + 1))) (rn_n (nI_nle (by omega) (by omega)) (rn_n (show ¬ (6 : Int32) ≤ nI E from nI_ge (a := E) (b := 6) w (by decide)) (rn_ld hh (by decide) (rn_st (by omega) (by decide) ?_)))) ?_
      · rw [cR_sA]
        refine rn_ld hh (by decide) ?_
        rw [cI_sA, s1]
        refine rn_st (by omega) (by decide) ?_
        rw [cI_sA, cI_sA, s1, cR_sA, cR_sA, hM, eL, nI_add]
        refine rn_st (by omega) (by decide) (rn_s (rn_r ?_))
        rw [cI_sA, cI_sA, cI_sA, s1, nI_1, cA_ne (by decide), cA_ne (by decide), cA_ne (by decide), a4, a8]
      · intro t et
        subst et
        refine rn_r ⟨kp_tr (kp_A (by decide)) (kp_tr (kp_A (by decide)) (kp_tr (kp_A (by decide)) (kp_I (by decide)))), oth_tr oth_A (oth_tr oth_A (oth_tr oth_A oth_I)), E + 1, cI_same _ _ _ _, by omega, ?_, ?_⟩
        · intro j z
          unfold EcB
          simp only [cI_sI, cI_sJ, cI_sR, cI_sA, cI_sB, cI_sQ, cR_sI, cR_sJ, cR_sR, cR_sA, cR_sB, cR_sQ, cA_sI, cA_sJ, cA_sR, cA_sA, cA_sB, cA_sQ, Nat.reduceEqDiff, false_and, and_false, and_true, true_and, if_false, if_true, and_self, ↓reduceIte]
          by_cases u : j = E
          · subst u; exact ⟨⟨x, hx, pk_us⟩, y, hy, pk_us⟩
          · rw [pk_un u, pk_un u]; exact s3 j (by omega)
        · intro f
          have fl : fr S < 6 := fe.mpr w
          have e1 : eS S (nI x) (nI y) = lvE S (fr S) (nI x) (nI y) := by unfold eS; rw [if_neg n7, if_pos fl]
          have sm : S 4 + S 7 = nI (M + L) := by rw [h4, h7, nI_add]
          rw [e1, lvE_su fl (f3 (by unfold fr at fl; omega)) (by rw [sm, h4]; exact nI_ge (by omega) (by omega)), s4 f, sm]
          show _ = su _ E + _
          refine congr (congrArg _ (su_congr fun j z => ?_)) ?_
          · unfold cf
            simp only [cI_sI, cI_sJ, cI_sR, cI_sA, cI_sB, cI_sQ, cR_sI, cR_sJ, cR_sR, cR_sA, cR_sB, cR_sQ, cA_sI, cA_sJ, cA_sR, cA_sA, cA_sB, cA_sQ, Nat.reduceEqDiff, false_and, and_false, and_true, true_and, if_false, if_true, and_self, ↓reduceIte]
            rw [pk_un (by omega), pk_un (by omega), pk_un (by omega)]
          · unfold cf
            simp only [cI_sI, cI_sJ, cI_sR, cI_sA, cI_sB, cI_sQ, cR_sI, cR_sJ, cR_sR, cR_sA, cR_sB, cR_sQ, cA_sI, cA_sJ, cA_sR, cA_sA, cA_sB, cA_sQ, Nat.reduceEqDiff, false_and, and_false, and_true, true_and, if_false, if_true, and_self, ↓reduceIte]
            rw [pk_us, pk_us, pk_us]
    · refine rn_e (in_neg (nI_nle (by omega) (by omega)) (in_pos (show (6 : Int32) ≤ nI E from nI_le (a := 6) (b := E) (by omega) (by omega)) rfl)) (rn_r ⟨kp_rf _ _, oth_rf _ _, E, ?_⟩)
      unfold eS
      rw [if_neg n7, if_neg (fun z => w (fe.mp z))]
      exact hS
end Leave
