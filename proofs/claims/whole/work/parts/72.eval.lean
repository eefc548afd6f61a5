/-! ===== rows of signs worked off by a stack: both alike ===== -/
def jn (s : Int32) (a b : Int64) : Int64 := (F_39 s a b).getD 0
theorem sg {α : Type} {x : Option α} {d : α} (h : ∃ v, x = some v) : x = some (x.getD d) := by obtain ⟨v, rfl⟩ := h; rfl
theorem f_39 (s : Int32) (a b : Int64) : F_39 s a b = some (jn s a b) := by
  refine sg ?_
  unfold F_39
  have i2 : ∀ {c : Prop} [Decidable c] {x y : Option Int64}, (∃ v, x = some v) → (∃ v, y = some v) → ∃ v, (if c then x else y) = some v := fun {c} _ {x y} h1 h2 => by
    by_cases q : c
    · rw [if_pos q]; exact h1
    · rw [if_neg q]; exact h2
  have b2 : ∀ {x : Option Int64}, (∃ v, x = some v) → ∃ v, (x >>= fun t => some t) = some v := fun {x} h => by obtain ⟨v, rfl⟩ := h; exact ⟨v, rfl⟩
  refine i2 ⟨_, rfl⟩ (i2 ⟨_, rfl⟩ (i2 ⟨_, rfl⟩ (i2 (b2 ?_) (i2 (b2 (i2 ⟨_, rfl⟩ ⟨_, rfl⟩)) (i2 (b2 (i2 ⟨_, rfl⟩ ⟨_, rfl⟩)) (i2 (b2 (i2 ⟨_, rfl⟩ ⟨_, rfl⟩)) (i2 (b2 (i2 ⟨_, rfl⟩ ⟨_, rfl⟩)) (i2 (b2 (i2 ⟨_, rfl⟩ ⟨_, rfl⟩)) (i2 ⟨_, rfl⟩ ⟨_, rfl⟩)))))))))
  by_cases q : lg_cmp b 0 = 0
  · rw [if_pos q]; exact ⟨_, rfl⟩
  · rw [if_neg q]
    refine ⟨a / b, ?_⟩
    unfold ldv
    rw [if_neg (fun z => q ((lg_cmp_eq _ _).mpr z))]
    rfl
/-- one sign -/
def rst (w : Nat → Int64) (s : Int32) (stk : List Int64) : Option (List Int64) :=
  if s = 31 then (match stk with | a :: t => some ((1 - a) :: t) | [] => none)
  else if s < 20 then (if stk.length < 60 then some (w s.toNatClampNeg :: stk) else none)
  else if 100 ≤ s then (if stk.length < 60 then some ((s - 100).toInt64 :: stk) else none)
  else (match stk with | b :: a :: t => some (jn s a b :: t) | _ => none)
def rns (w : Nat → Int64) (code : Nat → Int32) : Nat → Nat → List Int64 → Option (List Int64)
  | 0, _, stk => some stk
  | m + 1, i, stk => rst w (code i) stk >>= fun t => rns w code m (i + 1) t
def StkA (g : Nat → Int64) : List Int64 → Prop
  | [] => True
  | a :: t => g t.length = a ∧ StkA g t
theorem stk_up {g : Nat → Int64} {k : Nat} {v : Int64} : ∀ {t : List Int64}, t.length ≤ k → StkA g t → StkA (vp_updL g k v) t
  | [], _, _ => True.intro
  | a :: t, h, ⟨h1, h2⟩ => by
    have : (a :: t).length = t.length + 1 := rfl
    exact ⟨by rw [pk_uLn (by omega)]; exact h1, stk_up (by omega) h2⟩
/-- a sign of the class and of the reference -/
def rop (j : Nat) : Nat := [2, 3, 4, 5, 6, 7, 8, 9, 10, 12, 13, 11].getD j 0
def Enc (s v : Int32) : Prop := (∃ k, k < 12 ∧ s = nI k ∧ v = nI (1 + 16 * k)) ∨ (∃ m, m ≤ 99999 ∧ s = nI (100 + m) ∧ v = nI (16 * m)) ∨ (∃ j, j < 12 ∧ s = nI (20 + j) ∧ v = nI (rop j))
theorem f_216 {j : Nat} (hj : j < 11) (a b : Int64) : F_216 (nI (rop j)) a b = some (jn (nI (20 + j)) a b) := by
  rw [← f_39]
  rcases j with _ | _ | _ | _ | _ | _ | _ | _ | _ | _ | _ | j
  · rfl
  · rfl
  · rfl
  · rfl
  · rfl
  · rfl
  · rfl
  · rfl
  · rfl
  · rfl
  · rfl
  · omega
section Eval
variable {c1 c4 c8 c13 c12 : Cl} {d : Ad} {ru st B2 : Nat} {S : Nat → Int32} {R D H Q M L E n h : Nat} {K : Nat → Nat} {code : Nat → Int32}
theorem gl_38 {e : Nat} {v : Int64} {w : Nat → Int64} (hh : h < H) (hS : SR c1 c8 st S R D H Q M L E K) (hw : ∀ k, k < 12 → w k = (wd S R D H M K h k).toInt64) (hn : aN d (cR c4 0 ru) = n) (n4 : n ≤ 400) (hcode : cA c13 0 (cR c4 0 ru) = code) (hc : ∀ i, i < n → ∃ v, Enc (code i) v) (he : e ≤ n) : ∀ (m i : Nat) (stk : List Int64) (c' : Cl), i + m = e → Kp [3] c4 c' → StkA (cB c' 3 ru) stk → stk.length ≤ 60 → rns w code m i stk = some [v] → Rn (G_38 c1 c8 c13 d ru st 0 [nI e, nI h, nI stk.length, nI i] [] [] c') (fun r => r.1 = v ∧ Kp [3] c4 r.2)
  | 0, i, stk, c', hi, hK, hA, hl, hr => by
    have : i = e := by omega
    subst this
    have es : stk = [v] := by injection hr
    subst es
    rw [G_38]
    refine rn_p (nI_le (Nat.le_refl _) (by omega)) ?_
    rw [G_38]
    refine rn_e (v := v) (in_neg (show ¬ nI 1 ≤ 0 by decide) (ob_mk (v := v) ?_ rfl)) (rn_r ⟨rfl, hK⟩)
    rw [show nI [v].length - 1 = nI 0 from nI_pred 0]
    exact (ldl_ok (f := cB c' 3 ru) (n := 60) (i := 0) (by decide) (by decide)).trans (congrArg some hA.1)
  | m + 1, i, stk, c', hi, hK, hA, hl, hr => by
    obtain ⟨stk', h1, h2⟩ := ob_some hr
    have e0 : cR c' 0 ru = cR c4 0 ru := by rw [(hK 0 (by decide)).2.2.1]
    rw [G_38]
    refine rn_n (nI_ge (by omega) (by omega)) ?_
    rw [e0, hn]
    refine rn_n (show ¬ nI n ≤ nI i from nI_ge (by omega) (by omega)) (rn_ld (by omega) (by omega) ?_)
    rw [hcode]
    obtain ⟨vr, hen⟩ := hc i (by omega)
    have push : ∀ (x : Int64), stk.length < 60 → stk' = x :: stk → Rn (stl c' 3 ru 60 (nI stk.length) x >>= fun c4_27 => G_38 c1 c8 c13 d ru st 0 [nI e, nI h, nI stk.length + 1, nI i + 1] [] [] c4_27) (fun r => r.1 = v ∧ Kp [3] c4 r.2) := fun x hx es => by
      refine rn_sl hx (by decide) ?_
      rw [nI_1, nI_1]
      have := gl_38 hh hS hw hn n4 hcode hc he m (i + 1) stk' (sB c' 3 ru (vp_updL (cB c' 3 ru) stk.length x)) (by omega) (kp_tr hK (kp_B (by decide))) (by
        rw [cB_same, es]
        exact ⟨pk_uLs, stk_up (Nat.le_refl _) hA⟩) (by rw [es]; exact hx) h2
      rw [es] at this
      exact this
    rcases hen with ⟨k, hk, ek, -⟩ | ⟨q, hq, eq, -⟩ | ⟨j, hj, ej, -⟩
    · rw [ek] at h1 ⊢
      have y1 : ¬ nI k = 31 := fun z => by have := (nI_eq (a := k) (b := 31) (by omega) (by decide)).mp z; omega
      have y2 : nI k < 20 := nI_lt (a := k) (b := 20) (by omega) (by decide)
      unfold rst at h1
      rw [if_neg y1, if_pos y2] at h1
      by_cases y3 : stk.length < 60
      · rw [if_pos y3, nI_clamp (by omega)] at h1
        injection h1 with h1
        refine rn_n y1 (rn_p y2 ?_)
        rw [G_38]
        refine rn_n (show ¬ (60 : Int32) ≤ nI stk.length from nI_ge (a := stk.length) (b := 60) y3 (by decide)) (rn_e (v := w k) (in_pos (show nI k < (100 : Int32) from nI_lt (a := k) (b := 100) (by omega) (by decide)) (ob_mk (f_106 hh hk hS) (by rw [hw k hk]))) (push (w k) y3 h1.symm))
      · rw [if_neg y3] at h1; cases h1
    · rw [eq] at h1 ⊢
      have y1 : ¬ nI (100 + q) = 31 := fun z => by have := (nI_eq (a := 100 + q) (b := 31) (by omega) (by decide)).mp z; omega
      have y2 : ¬ nI (100 + q) < 20 := nI_nlt (a := 100 + q) (b := 20) (by omega) (by omega)
      have y4 : (100 : Int32) ≤ nI (100 + q) := nI_le (a := 100) (b := 100 + q) (by omega) (by omega)
      unfold rst at h1
      rw [if_neg y1, if_neg y2, if_pos y4] at h1
      by_cases y3 : stk.length < 60
      · rw [if_pos y3] at h1
        injection h1 with h1
        refine rn_n y1 (rn_n y2 (rn_p y4 ?_))
        rw [G_38]
        refine rn_n (show ¬ (60 : Int32) ≤ nI stk.length from nI_ge (a := stk.length) (b := 60) y3 (by decide)) (rn_e (in_neg (Int32.not_lt.mpr y4) rfl) (push _ y3 h1.symm))
      · rw [if_neg y3] at h1; cases h1
    · rw [ej] at h1 ⊢
      by_cases j11 : j = 11
      · subst j11
        unfold rst at h1
        rw [if_pos (show nI (20 + 11) = 31 from rfl)] at h1
        cases stk with
        | nil => cases h1
        | cons a t =>
          injection h1 with h1
          have hlt : t.length + 1 ≤ 60 := hl
          refine rn_p rfl (rn_e (v := sB c' 3 ru (vp_updL (cB c' 3 ru) t.length (1 - a))) (in_neg (show ¬ nI (t.length + 1) ≤ 0 from nI_nle (by omega) (by omega)) ?_) ?_)
          · rw [show nI (a :: t).length - 1 = nI t.length from nI_pred _]
            refine ob_mk (v := a) ((ldl_ok (by omega) (by decide)).trans (by rw [hA.1])) (ob_mk (stl_ok (by omega) (by decide)) rfl)
          · rw [nI_1]
            have := gl_38 hh hS hw hn n4 hcode hc he m (i + 1) stk' (sB c' 3 ru (vp_updL (cB c' 3 ru) t.length (1 - a))) (by omega) (kp_tr hK (kp_B (by decide))) (by
              rw [cB_same, ← h1]
              exact ⟨pk_uLs, stk_up (Nat.le_refl _) hA.2⟩) (by rw [← h1]; exact hlt) h2
            rw [← h1] at this
            exact this
      · have y1 : ¬ nI (20 + j) = 31 := fun z => by have := (nI_eq (a := 20 + j) (b := 31) (by omega) (by decide)).mp z; omega
        have y2 : ¬ nI (20 + j) < 20 := nI_nlt (a := 20 + j) (b := 20) (by omega) (by omega)
        have y4 : ¬ (100 : Int32) ≤ nI (20 + j) := nI_ge (a := 20 + j) (b := 100) (by omega) (by omega)
        unfold rst at h1
        rw [if_neg y1, if_neg y2, if_neg y4] at h1
        cases stk with
        | nil => cases h1
        | cons b t =>
          cases t with
          | nil => cases h1
          | cons a t =>
            injection h1 with h1
            have hlt : t.length + 1 + 1 ≤ 60 := hl
            refine rn_n y1 (rn_n y2 (rn_n y4 (rn_e (v := (nI (t.length + 1), sB c' 3 ru (vp_updL (cB c' 3 ru) t.length (jn (nI (20 + j)) a b)))) (in_neg (show ¬ nI (t.length + 1 + 1) ≤ (1 : Int32) from nI_ge (a := 1) (b := t.length + 1 + 1) (by omega) (by omega)) ?_) ?_)))
            · rw [show nI (b :: a :: t).length - 1 = nI (t.length + 1) from nI_pred _, show nI (b :: a :: t).length - (2 : Int32) = nI t.length from pk_sub (a := t.length + 1 + 1) (b := 2) (by omega), show nI (b :: a :: t).length + (-1) = nI (t.length + 1) from pk_m1 _]
              exact ob_mk (v := a) ((ldl_ok (by omega) (by decide)).trans (by rw [hA.2.1])) (ob_mk (v := b) ((ldl_ok (by omega) (by decide)).trans (by rw [show t.length + 1 = (a :: t).length from rfl, hA.1])) (ob_mk (f_39 _ _ _) (ob_mk (stl_ok (by omega) (by decide)) rfl)))
            · dsimp only
              rw [nI_1]
              have := gl_38 hh hS hw hn n4 hcode hc he m (i + 1) stk' (sB c' 3 ru (vp_updL (cB c' 3 ru) t.length (jn (nI (20 + j)) a b))) (by omega) (kp_tr hK (kp_B (by decide))) (by
                rw [cB_same, ← h1]
                exact ⟨pk_uLs, stk_up (Nat.le_refl _) hA.2.2⟩) (by rw [← h1]; exact (by omega : t.length + 1 ≤ 60)) h2
              rw [← h1] at this
              exact this
theorem f_38 {a e : Nat} {v : Int64} {w : Nat → Int64} (hh : h < H) (hS : SR c1 c8 st S R D H Q M L E K) (hw : ∀ k, k < 12 → w k = (wd S R D H M K h k).toInt64) (hn : aN d (cR c4 0 ru) = n) (n4 : n ≤ 400) (hcode : cA c13 0 (cR c4 0 ru) = code) (hc : ∀ i, i < n → ∃ v, Enc (code i) v) (he : e ≤ n) (ha : a ≤ e) (hr : rns w code (e - a) a [] = some [v]) : Rn (F_38 c1 c4 c8 c13 d ru (nI a) (nI e) st (nI h)) (fun r => r.1 = v ∧ Kp [3] c4 r.2) := by
  unfold F_38
  exact gl_38 hh hS hw hn n4 hcode hc he (e - a) a [] c4 (by omega) (kp_rf _ _) True.intro (by decide) hr
theorem f_214 {c : Cl} {p : Int64} {k : Nat} (hk : cI c 18 B2 = nI k) (k64 : k < 64) : F_214 c B2 p = some (sI (sB c 17 B2 (vp_updL (cB c 17 B2) k p)) 18 B2 (nI (k + 1))) := by
  unfold F_214
  rw [hk]
  refine ob_mk (stl_ok k64 (by decide)) ?_
  rw [cI_sB, hk, nI_1]
  rfl
theorem f_215 {c : Cl} {k : Nat} (hk : cI c 18 B2 = nI (k + 1)) (k64 : k < 64) : F_215 c B2 = some (cB c 17 B2 k, sI c 18 B2 (nI k)) := by
  unfold F_215
  rw [hk, show nI (k + 1) - 1 = nI k from nI_pred _]
  refine ob_mk rfl ?_
  rw [cI_same, cB_sI]
  exact ob_mk (ldl_ok k64 (by decide)) rfl
theorem gl_217 {e t : Nat} {v : Int64} {w : Nat → Int64} (t6 : t < 6) (n4 : n ≤ 400) (hc : ∀ i, i < n → Enc (code i) (cA c12 3 B2 (400 * t + i))) (hw : ∀ k, k < 12 → cB c12 19 B2 k = w k) (he : e ≤ n) : ∀ (m i : Nat) (stk : List Int64) (c' : Cl), i + m = e → Kp [17, 18] c12 c' → cI c' 18 B2 = nI stk.length → StkA (cB c' 17 B2) stk → stk.length ≤ 60 → rns w code m i stk = some [v] → Rn (G_217 B2 0 [nI t, nI e, nI i] [] [] c') (fun r => r.1 = v ∧ Kp [17, 18] c12 r.2)
  | 0, i, stk, c', hi, hK, hT, hA, hl, hr => by
    have : i = e := by omega
    subst this
    have es : stk = [v] := by injection hr
    subst es
    rw [G_217]
    refine rn_p (nI_le (Nat.le_refl _) (by omega)) (rn_e (f_215 (k := 0) hT (by decide)) (rn_r ⟨hA.1, kp_tr hK (kp_I (by decide))⟩))
  | m + 1, i, stk, c', hi, hK, hT, hA, hl, hr => by
    obtain ⟨stk', h1, h2⟩ := ob_some hr
    have e3 : cA c' 3 B2 = cA c12 3 B2 := by rw [(hK 3 (by decide)).2.2.2.1]
    have ix : (400 : Int32) * nI t + nI i = nI (400 * t + i) := by rw [show (400 : Int32) * nI t = nI (400 * t) from pk_mul 400 t, nI_add]
    rw [G_217]
    refine rn_n (nI_ge (by omega) (by omega)) ?_
    rw [ix, e3]
    refine rn_ld (by omega) (by decide) (rn_ld (by omega) (by decide) ?_)
    have go : ∀ c'', Kp [17, 18] c' c'' → cI c'' 18 B2 = nI stk'.length → StkA (cB c'' 17 B2) stk' → stk'.length ≤ 60 → Rn (G_217 B2 0 [nI t, nI e, nI i + 1] [] [] c'') (fun r => r.1 = v ∧ Kp [17, 18] c12 r.2) := fun c'' k1 k2 k3 k4 => by
      rw [nI_1]
      exact gl_217 t6 n4 hc hw he m (i + 1) stk' c'' (by omega) (kp_tr hK k1) k2 k3 k4 h2
    have push : ∀ x, stk.length < 60 → stk' = x :: stk → Rn (some (sI (sB c' 17 B2 (vp_updL (cB c' 17 B2) stk.length x)) 18 B2 (nI (stk.length + 1))) >>= fun t6 => G_217 B2 0 [nI t, nI e, nI i + 1] [] [] t6) (fun r => r.1 = v ∧ Kp [17, 18] c12 r.2) := fun x hx es => by
      refine rn_s (go _ (kp_tr (kp_B (by decide)) (kp_I (by decide))) (by rw [cI_same, es]; rfl) (by
        rw [cB_sI, cB_same, es]
        exact ⟨pk_uLs, stk_up (Nat.le_refl _) hA⟩) (by rw [es]; exact hx))
    rcases hc i (by omega) with ⟨k, hk, ek, er⟩ | ⟨q, hq, eq, er⟩ | ⟨j, hj, ej, er⟩
    · rw [ek] at h1
      have y1 : ¬ nI k = 31 := fun z => by have := (nI_eq (a := k) (b := 31) (by omega) (by decide)).mp z; omega
      have y2 : nI k < 20 := nI_lt (a := k) (b := 20) (by omega) (by decide)
      unfold rst at h1
      rw [if_neg y1, if_pos y2] at h1
      by_cases y3 : stk.length < 60
      · rw [if_pos y3, nI_clamp (by omega)] at h1
        injection h1 with h1
        have a15 : nI (1 + 16 * k) &&& 15 = (1 : Int32) := by
          rw [pk_andN (n := 1 + 16 * k) (by omega) (m := 15) 4 rfl, show (1 + 16 * k) % 2 ^ 4 = 1 by omega]; rfl
        have s4 : nI (1 + 16 * k) >>> ((4 : Int32) &&& 31) = nI k := by
          rw [pk_shrN (n := 1 + 16 * k) (by omega) _ 4 (by decide), show (1 + 16 * k) / 2 ^ 4 = k by omega]
        rw [er, a15, s4]
        have ew : cB c' 19 B2 k = w k := by rw [(hK 19 (by decide)).2.2.2.2.1]; exact hw k hk
        refine rn_e (v := sI (sB c' 17 B2 (vp_updL (cB c' 17 B2) stk.length (w k))) 18 B2 (nI (stk.length + 1))) (in_neg (by decide) (in_pos rfl (ob_mk (v := w k) ((ldl_ok hk (by decide)).trans (by rw [ew])) (ob_mk (f_214 hT (by omega)) rfl)))) (push (w k) y3 h1.symm)
      · rw [if_neg y3] at h1; cases h1
    · rw [eq] at h1
      have y1 : ¬ nI (100 + q) = 31 := fun z => by have := (nI_eq (a := 100 + q) (b := 31) (by omega) (by decide)).mp z; omega
      have y2 : ¬ nI (100 + q) < 20 := nI_nlt (a := 100 + q) (b := 20) (by omega) (by omega)
      have y4 : (100 : Int32) ≤ nI (100 + q) := nI_le (a := 100) (b := 100 + q) (by omega) (by omega)
      unfold rst at h1
      rw [if_neg y1, if_neg y2, if_pos y4] at h1
      by_cases y3 : stk.length < 60
      · rw [if_pos y3] at h1
        injection h1 with h1
        have a15 : nI (16 * q) &&& 15 = (0 : Int32) := by
          rw [pk_andN (n := 16 * q) (by omega) (m := 15) 4 rfl, show (16 * q) % 2 ^ 4 = 0 by omega]; rfl
        have s4 : nI (16 * q) >>> ((4 : Int32) &&& 31) = nI q := by
          rw [pk_shrN (n := 16 * q) (by omega) _ 4 (by decide), show (16 * q) / 2 ^ 4 = q by omega]
        have e1 : nI (100 + q) - 100 = nI q := (pk_sub (a := 100 + q) (b := 100) (by omega)).trans (by rw [show 100 + q - 100 = q by omega])
        rw [e1] at h1
        rw [er, a15, s4]
        refine rn_e (in_pos rfl (ob_mk (f_214 hT (by omega)) rfl)) (push _ y3 h1.symm)
      · rw [if_neg y3] at h1; cases h1
    · rw [ej] at h1
      have r16 : rop j < 16 ∧ rop j ≠ 0 ∧ rop j ≠ 1 ∧ (rop j = 11 ↔ j = 11) := (by decide : ∀ j, j < 12 → rop j < 16 ∧ rop j ≠ 0 ∧ rop j ≠ 1 ∧ (rop j = 11 ↔ j = 11)) j hj
      have a15 : nI (rop j) &&& 15 = nI (rop j) := by
        rw [pk_andN (n := rop j) (by omega) (m := 15) 4 rfl, Nat.mod_eq_of_lt r16.1]
      have nz : ∀ k, k < 16 → rop j ≠ k → ¬ nI (rop j) = nI k := fun k hk z e => z ((nI_eq (by omega) (by omega)).mp e)
      rw [er, a15]
      by_cases j11 : j = 11
      · subst j11
        unfold rst at h1
        rw [if_pos (show nI (20 + 11) = 31 from rfl)] at h1
        cases stk with
        | nil => cases h1
        | cons a tl =>
          injection h1 with h1
          have hlt : tl.length + 1 ≤ 60 := hl
          refine rn_e (v := sI (sB (sI c' 18 B2 (nI tl.length)) 17 B2 (vp_updL (cB c' 17 B2) tl.length (1 - a))) 18 B2 (nI (tl.length + 1))) (in_neg (by decide) (in_neg (by decide) (in_pos rfl (ob_mk (f_215 (k := tl.length) hT (by omega)) (ob_mk (v := sI (sB (sI c' 18 B2 (nI tl.length)) 17 B2 (vp_updL (cB c' 17 B2) tl.length (1 - a))) 18 B2 (nI (tl.length + 1))) ((f_214 (cI_same _ _ _ _) (by omega)).trans (by dsimp only; rw [cB_sI, hA.1])) rfl))))) (go _ (kp_tr (kp_I (by decide)) (kp_tr (kp_B (by decide)) (kp_I (by decide)))) (by rw [cI_same, ← h1]; rfl) (by
            rw [cB_sI, cB_same, ← h1]
            exact ⟨pk_uLs, stk_up (Nat.le_refl _) hA.2⟩) (by rw [← h1]; exact hlt))
      · have y1 : ¬ nI (20 + j) = 31 := fun z => by have := (nI_eq (a := 20 + j) (b := 31) (by omega) (by decide)).mp z; omega
        have y2 : ¬ nI (20 + j) < 20 := nI_nlt (a := 20 + j) (b := 20) (by omega) (by omega)
        have y4 : ¬ (100 : Int32) ≤ nI (20 + j) := nI_ge (a := 20 + j) (b := 100) (by omega) (by omega)
        unfold rst at h1
        rw [if_neg y1, if_neg y2, if_neg y4] at h1
        cases stk with
        | nil => cases h1
        | cons b tl =>
          cases tl with
          | nil => cases h1
          | cons a tl =>
            injection h1 with h1
            have hlt : tl.length + 1 + 1 ≤ 60 := hl
            refine rn_e (v := sI (sB (sI (sI c' 18 B2 (nI (tl.length + 1))) 18 B2 (nI tl.length)) 17 B2 (vp_updL (cB c' 17 B2) tl.length (jn (nI (20 + j)) a b))) 18 B2 (nI (tl.length + 1))) (in_neg (nz 0 (by decide) r16.2.1) (in_neg (nz 1 (by decide) r16.2.2.1) (in_neg (nz 11 (by decide) (fun z => j11 (r16.2.2.2.mp z))) (ob_mk (f_215 (k := tl.length + 1) hT (by omega)) (ob_mk (f_215 (k := tl.length) (cI_same _ _ _ _) (by omega)) (ob_mk (v := jn (nI (20 + j)) a b) ?_ (ob_mk ((f_214 (cI_same _ _ _ _) (by omega)).trans (by dsimp only; rw [cB_sI, cB_sI])) rfl))))))) (go _ (kp_tr (kp_I (by decide)) (kp_tr (kp_I (by decide)) (kp_tr (kp_B (by decide)) (kp_I (by decide))))) (by rw [cI_same, ← h1]; rfl) (by
              rw [cB_sI, cB_same, ← h1]
              exact ⟨pk_uLs, stk_up (Nat.le_refl _) hA.2.2⟩) (by rw [← h1]; exact (by omega : tl.length + 1 ≤ 60)))
            dsimp only
            rw [cB_sI, show tl.length + 1 = (a :: tl).length from rfl, hA.1, hA.2.1]
            exact f_216 (by omega) a b
theorem f_217 {a e t : Nat} {v : Int64} {w : Nat → Int64} (t6 : t < 6) (n4 : n ≤ 400) (hc : ∀ i, i < n → Enc (code i) (cA c12 3 B2 (400 * t + i))) (hw : ∀ k, k < 12 → cB c12 19 B2 k = w k) (he : e ≤ n) (ha : a ≤ e) (hr : rns w code (e - a) a [] = some [v]) : Rn (F_217 c12 B2 (nI t) (nI a) (nI e)) (fun r => r.1 = v ∧ Kp [17, 18] c12 r.2) := by
  unfold F_217
  exact rn_s (gl_217 t6 n4 hc hw he (e - a) a [] (sI c12 18 B2 0) (by omega) (kp_I (by decide)) (cI_same _ _ _ _) True.intro (by decide) hr)
end Eval
