/-! ===== what counts tell: both alike ===== -/
theorem and_b {x : Int32} {i j : Nat} (hi : i < 32) (hj : j < 32) : bt (x &&& ((1 : Int32) <<< (nI i &&& 31))) j = (bt x j && decide (j = i)) := by
  rw [b_and, bt_sh hj hi]
theorem and_eq {x : Int32} {i j : Nat} (hi : i < 32) (hj : j < 32) : (x &&& ((1 : Int32) <<< (nI i &&& 31))) = (x &&& ((1 : Int32) <<< (nI j &&& 31))) ↔ i = j ∨ (bt x i = false ∧ bt x j = false) := by
  constructor
  · intro h
    by_cases q : i = j
    · exact Or.inl q
    · have h1 := congrArg (fun z => bt z i) h
      have h2 := congrArg (fun z => bt z j) h
      rw [and_b hi hi, and_b hj hi] at h1
      rw [and_b hi hj, and_b hj hj] at h2
      have q' : ¬ j = i := fun e => q e.symm
      refine Or.inr ⟨?_, ?_⟩
      · simpa [q] using h1
      · simpa [q'] using h2.symm
  · rintro (rfl | ⟨a, b⟩)
    · rfl
    · refine b_ext fun k hk => ?_
      rw [and_b hi hk, and_b hj hk]
      by_cases w : k = i
      · subst w; rw [a]; rfl
      · by_cases u : k = j
        · subst u; rw [b]; rfl
        · simp [w, u]
theorem and_0 {x : Int32} {i j : Nat} (hi : i < 32) (hj : j < 32) : (x &&& (((1 : Int32) <<< (nI i &&& 31)) ||| ((1 : Int32) <<< (nI j &&& 31)))) = 0 ↔ bt x i = false ∧ bt x j = false := by
  have g : ∀ k, k < 32 → bt (x &&& (((1 : Int32) <<< (nI i &&& 31)) ||| ((1 : Int32) <<< (nI j &&& 31)))) k = (bt x k && (decide (k = i) || decide (k = j))) := fun k hk => by
    rw [b_and, b_or, bt_sh hk hi, bt_sh hk hj]
  constructor
  · intro h
    have h1 := g i hi
    have h2 := g j hj
    rw [h, b_0] at h1 h2
    refine ⟨?_, ?_⟩
    · simpa using h1.symm
    · simpa using h2.symm
  · rintro ⟨a, b⟩
    refine b_ext fun k hk => ?_
    rw [g k hk, b_0]
    by_cases w : k = i
    · subst w; rw [a]; rfl
    · by_cases u : k = j
      · subst u; rw [b]; simp
      · simp [w, u]
/-- by how much a going changes a room -/
def chg (f t y r : Nat) : Int32 := if r = t then nI y else if r = f then -nI y else 0
theorem sg_y : ∀ y : Fin 5, ∀ z : Fin 5, 1 ≤ y.val → 1 ≤ z.val → ¬ nI y.val = 0 ∧ ¬ nI y.val = -nI z.val ∧ ¬ (0 : Int32) = nI y.val ∧ ¬ -nI y.val = 0 ∧ ¬ (0 : Int32) = -nI y.val ∧ (nI y.val = nI z.val → y.val = z.val) ∧ (-nI y.val = -nI z.val → y.val = z.val) := by decide +kernel
/-- told apart by nothing -/
def FA (x : Int32) (f1 t1 y1 f2 t2 y2 : Nat) : Prop := y1 = y2 ∧ (f1 = f2 ∨ (bt x f1 = false ∧ bt x f2 = false)) ∧ (t1 = t2 ∨ (bt x t1 = false ∧ bt x t2 = false))
def CA (x : Int32) (R f1 t1 y1 f2 t2 y2 : Nat) : Prop := ∀ r, r < R → bt x r = true → chg f1 t1 y1 r = chg f2 t2 y2 r
theorem ca_fa {x : Int32} {R f1 t1 y1 f2 t2 y2 : Nat} (hf1 : f1 < R) (ht1 : t1 < R) (hf2 : f2 < R) (ht2 : t2 < R) (n1 : t1 ≠ f1) (n2 : t2 ≠ f2) (a1 : 1 ≤ y1) (b1 : y1 ≤ 4) (a2 : 1 ≤ y2) (b2 : y2 ≤ 4) (hv : bt x f1 = true ∨ bt x t1 = true) : CA x R f1 t1 y1 f2 t2 y2 ↔ FA x f1 t1 y1 f2 t2 y2 := by
  obtain ⟨s1, s2, s3, s4, s5, s6, s7⟩ := sg_y ⟨y1, by omega⟩ ⟨y2, by omega⟩ a1 a2
  obtain ⟨u1, u2, u3, u4, u5, u6, u7⟩ := sg_y ⟨y2, by omega⟩ ⟨y1, by omega⟩ a2 a1
  dsimp only at s1 s2 s3 s4 s5 s6 s7 u1 u2 u3 u4 u5 u6 u7
  constructor
  · intro h
    have k1 : bt x t1 = true → t1 = t2 ∧ y1 = y2 := fun q => by
      have e := h t1 ht1 q
      unfold chg at e
      rw [if_pos rfl] at e
      by_cases w : t1 = t2
      · rw [if_pos w] at e; exact ⟨w, s6 e⟩
      · rw [if_neg w] at e
        by_cases w2 : t1 = f2
        · rw [if_pos w2] at e; exact absurd e s2
        · rw [if_neg w2] at e; exact absurd e s1
    have k2 : bt x f1 = true → f1 = f2 ∧ y1 = y2 := fun q => by
      have e := h f1 hf1 q
      unfold chg at e
      rw [if_neg (Ne.symm n1), if_pos rfl] at e
      by_cases w : f1 = t2
      · rw [if_pos w] at e; exact absurd e.symm u2
      · rw [if_neg w] at e
        by_cases w2 : f1 = f2
        · rw [if_pos w2] at e; exact ⟨w2, s7 e⟩
        · rw [if_neg w2] at e; exact absurd e s4
    have k3 : bt x t2 = true → t1 = t2 := fun q => by
      have e := h t2 ht2 q
      unfold chg at e
      rw [if_pos (show t2 = t2 from rfl)] at e
      by_cases w : t2 = t1
      · exact w.symm
      · rw [if_neg w] at e
        by_cases w2 : t2 = f1
        · rw [if_pos w2] at e; exact absurd e.symm u2
        · rw [if_neg w2] at e; exact absurd e.symm u1
    have k4 : bt x f2 = true → f1 = f2 := fun q => by
      have e := h f2 hf2 q
      unfold chg at e
      rw [if_neg (Ne.symm n2), if_pos (show f2 = f2 from rfl)] at e
      by_cases w : f2 = t1
      · rw [if_pos w] at e; exact absurd e s2
      · rw [if_neg w] at e
        by_cases w2 : f2 = f1
        · exact w2.symm
        · rw [if_neg w2] at e; exact absurd e u5
    have nb : ∀ b : Bool, ¬ b = true → b = false := fun b => by cases b <;> simp
    refine ⟨hv.elim (fun q => (k2 q).2) (fun q => (k1 q).2), ?_, ?_⟩
    · by_cases q : f1 = f2
      · exact Or.inl q
      · exact Or.inr ⟨nb _ (fun z => q (k2 z).1), nb _ (fun z => q (k4 z))⟩
    · by_cases q : t1 = t2
      · exact Or.inl q
      · exact Or.inr ⟨nb _ (fun z => q (k1 z).1), nb _ (fun z => q (k3 z))⟩
  · rintro ⟨rfl, hf, ht⟩ r hr hb
    unfold chg
    have tt : (r = t1 ↔ r = t2) := by
      rcases ht with rfl | ⟨z1, z2⟩
      · exact Iff.rfl
      · constructor
        · rintro rfl; rw [z1] at hb; cases hb
        · rintro rfl; rw [z2] at hb; cases hb
    have ff : (r = f1 ↔ r = f2) := by
      rcases hf with rfl | ⟨z1, z2⟩
      · exact Iff.rfl
      · constructor
        · rintro rfl; rw [z1] at hb; cases hb
        · rintro rfl; rw [z2] at hb; cases hb
    by_cases w : r = t1
    · rw [if_pos w, if_pos (tt.mp w)]
    · rw [if_neg w, if_neg (fun z => w (tt.mpr z))]
      by_cases u : r = f1
      · rw [if_pos u, if_pos (ff.mp u)]
      · rw [if_neg u, if_neg (fun z => u (ff.mpr z))]
section Known2
variable {c9 c12 : Cl} {wa B2 : Nat} {R H N : Nat} {gh gf gt gy : Nat → Nat} {x : Int32}
/-- two goings that are not one, told apart by nothing -/
def Bad (x : Int32) (gf gt gy : Nat → Nat) (i j : Nat) : Prop := ¬ (gf i = gf j ∧ gt i = gt j) ∧ FA x (gf i) (gt i) (gy i) (gf j) (gt j) (gy j)
def Vis (x : Int32) (gf gt : Nat → Nat) (i : Nat) : Prop := bt x (gf i) = true ∨ bt x (gt i) = true
/-- the class's rows -/
def GoX (c9 : Cl) (wa N R : Nat) (gf gt gy : Nat → Nat) : Prop := cI c9 1 wa = nI N ∧ N ≤ 30 ∧ R ≤ 6 ∧ ∀ k, k < N → cA c9 2 wa k = nI (gf k) ∧ cA c9 3 wa k = nI (gt k) ∧ cA c9 4 wa k = nI (gy k) ∧ gf k < R ∧ gt k < R ∧ gt k ≠ gf k ∧ 1 ≤ gy k ∧ gy k ≤ 4
theorem f_110 {i j : Nat} (hG : GoX c9 wa N R gf gt gy) (hi : i < N) (hj : j < N) : ∃ v, F_110 c9 wa x (nI i) (nI j) = some v ∧ (v = 0 ↔ ¬ FA x (gf i) (gt i) (gy i) (gf j) (gt j) (gy j)) := by
  obtain ⟨-, n30, r6, g⟩ := hG
  obtain ⟨a1, a2, a3, a4, a5, a6, a7, a8⟩ := g i hi
  obtain ⟨b1, b2, b3, b4, b5, b6, b7, b8⟩ := g j hj
  have l : ∀ {k m : Nat} {z : Nat}, m < N → cA c9 k wa m = nI z → ald (cA c9 k wa) 36 (nI m) = some (nI z) := fun hm e => (ald_ok (by omega) (by decide)).trans (by rw [e])
  unfold F_110 FA
  by_cases w : gy i = gy j
  · by_cases u : gf i = gf j ∨ (bt x (gf i) = false ∧ bt x (gf j) = false)
    · by_cases v : gt i = gt j ∨ (bt x (gt i) = false ∧ bt x (gt j) = false)
      · refine ⟨1, ob_mk (l hi a3) (ob_mk (l hj b3) (ob_mk (v := 1) (in_pos (by rw [w]) (ob_mk (l hi a1) (ob_mk (l hj b1) (in_pos ((and_eq (by omega) (by omega)).mpr u) (ob_mk (l hi a2) (ob_mk (l hj b2) (in_pos ((and_eq (by omega) (by omega)).mpr v) rfl))))))) rfl)), ?_⟩
        exact ⟨fun z => absurd z (by decide), fun z => absurd ⟨w, u, v⟩ z⟩
      · refine ⟨0, ob_mk (l hi a3) (ob_mk (l hj b3) (ob_mk (v := 0) (in_pos (by rw [w]) (ob_mk (l hi a1) (ob_mk (l hj b1) (in_pos ((and_eq (by omega) (by omega)).mpr u) (ob_mk (l hi a2) (ob_mk (l hj b2) (in_neg (fun z => v ((and_eq (by omega) (by omega)).mp z)) rfl))))))) rfl)), ?_⟩
        exact ⟨fun _ z => v z.2.2, fun _ => rfl⟩
    · refine ⟨0, ob_mk (l hi a3) (ob_mk (l hj b3) (ob_mk (v := 0) (in_pos (by rw [w]) (ob_mk (l hi a1) (ob_mk (l hj b1) (in_neg (fun z => u ((and_eq (by omega) (by omega)).mp z)) rfl)))) rfl)), ?_⟩
      exact ⟨fun _ z => u z.2.1, fun _ => rfl⟩
  · refine ⟨0, ob_mk (l hi a3) (ob_mk (l hj b3) (ob_mk (v := 0) (in_neg (fun z => w ((nI_eq (by omega) (by omega)).mp z)) rfl) rfl)), ?_⟩
    exact ⟨fun _ z => w z.1, fun _ => rfl⟩
theorem gl_109b {i : Nat} (hG : GoX c9 wa N R gf gt gy) (hi : i < N) : ∀ m j, j + m = i → ((∀ k, j ≤ k → k < i → ¬ Bad x gf gt gy i k) ∧ G_109 c9 wa 1 [x, nI i, nI j] [] [] = G_109 c9 wa 0 [x, nI (i + 1)] [] []) ∨ ((∃ k, k < i ∧ Bad x gf gt gy i k) ∧ G_109 c9 wa 1 [x, nI i, nI j] [] [] = some 0)
  | 0, j, hj => by
    have : j = i := by omega
    subst this
    have n30 := hG.2.1
    refine Or.inl ⟨fun k a b => by omega, ?_⟩
    conv => lhs; rw [G_109]
    rw [if_pos (nI_le (Nat.le_refl _) (by omega)), nI_1]
  | m + 1, j, hj => by
    obtain ⟨-, n30, r6, g⟩ := id hG
    obtain ⟨a1, a2, a3, a4, a5, a6, a7, a8⟩ := g i hi
    obtain ⟨b1, b2, b3, b4, b5, b6, b7, b8⟩ := g j (by omega)
    have l : ∀ {k m : Nat} {z : Nat}, m < N → cA c9 k wa m = nI z → ald (cA c9 k wa) 36 (nI m) = some (nI z) := fun hm e => (ald_ok (by omega) (by decide)).trans (by rw [e])
    have ih := gl_109b hG hi m (j + 1) (by omega)
    obtain ⟨v, f1, f2⟩ := f_110 (x := x) hG hi (show j < N by omega)
    have nb : ¬ i ≤ j := by omega
    have step2 : ∀ {y : Option Int32}, (v = 0 → G_109 c9 wa 1 [x, nI i, nI (j + 1)] [] [] = y) → (¬ v = 0 → some 0 = y) → G_109 c9 wa 2 [x, nI i, nI j] [] [] = y := fun {y} h1 h2 => by
      rw [G_109]
      refine ob_e f1 ?_
      by_cases w : v = 0
      · rw [if_pos w, nI_1]; exact h1 w
      · rw [if_neg w]; exact h2 w
    have step1 : ∀ {y : Option Int32}, (gf i = gf j ∧ gt i = gt j → G_109 c9 wa 1 [x, nI i, nI (j + 1)] [] [] = y) → (¬ (gf i = gf j ∧ gt i = gt j) → G_109 c9 wa 2 [x, nI i, nI j] [] [] = y) → G_109 c9 wa 1 [x, nI i, nI j] [] [] = y := fun {y} h1 h2 => by
      conv => lhs; rw [G_109]
      rw [if_neg (nI_ge (by omega) (by omega))]
      refine ob_e (l hi a1) (ob_e (l (by omega) b1) ?_)
      by_cases w : gf i = gf j
      · rw [if_pos (by rw [w])]
        refine ob_e (l hi a2) (ob_e (l (by omega) b2) ?_)
        by_cases u : gt i = gt j
        · rw [if_pos (by rw [u]), nI_1]; exact h1 ⟨w, u⟩
        · rw [if_neg (fun z => u ((nI_eq (by omega) (by omega)).mp z))]; exact h2 (fun z => u z.2)
      · rw [if_neg (fun z => w ((nI_eq (by omega) (by omega)).mp z))]; exact h2 (fun z => w z.1)
    by_cases q : Bad x gf gt gy i j
    · refine Or.inr ⟨⟨j, by omega, q⟩, step1 (fun z => absurd z q.1) (fun _ => step2 (fun z => absurd q.2 (f2.mp z)) (fun _ => rfl))⟩
    · have nz : ¬ (gf i = gf j ∧ gt i = gt j) → v = 0 := fun z => f2.mpr (fun w => q ⟨z, w⟩)
      rcases ih with ⟨h1, h2⟩ | ⟨h1, h2⟩
      · refine Or.inl ⟨fun k a b => ?_, step1 (fun _ => h2) (fun z => step2 (fun _ => h2) (fun w => absurd (nz z) w))⟩
        by_cases e : k = j
        · subst e; exact q
        · exact h1 k (by omega) b
      · exact Or.inr ⟨h1, step1 (fun _ => h2) (fun z => step2 (fun _ => h2) (fun w => absurd (nz z) w))⟩
theorem gl_109a (hG : GoX c9 wa N R gf gt gy) : ∀ m i, i + m = N → ((∀ k, i ≤ k → k < N → Vis x gf gt k ∧ ∀ j, j < k → ¬ Bad x gf gt gy k j) ∧ G_109 c9 wa 0 [x, nI i] [] [] = some 1) ∨ ((∃ k, k < N ∧ ¬ (Vis x gf gt k ∧ ∀ j, j < k → ¬ Bad x gf gt gy k j)) ∧ G_109 c9 wa 0 [x, nI i] [] [] = some 0)
  | 0, i, hi => by
    have : i = N := by omega
    subst this
    obtain ⟨g1, n30, -⟩ := id hG
    refine Or.inl ⟨fun k a b => by omega, ?_⟩
    rw [G_109]
    exact in_pos (by rw [g1]; exact nI_le (Nat.le_refl _) (by omega)) rfl
  | m + 1, i, hi => by
    obtain ⟨g1, n30, r6, g⟩ := id hG
    obtain ⟨a1, a2, a3, a4, a5, a6, a7, a8⟩ := g i (by omega)
    have l : ∀ {k m : Nat} {z : Nat}, m < N → cA c9 k wa m = nI z → ald (cA c9 k wa) 36 (nI m) = some (nI z) := fun hm e => (ald_ok (by omega) (by decide)).trans (by rw [e])
    have ih := gl_109a hG m (i + 1) (by omega)
    have inn := gl_109b (x := x) hG (show i < N by omega) i 0 (by omega)
    by_cases v : bt x (gf i) = false ∧ bt x (gt i) = false
    · refine Or.inr ⟨⟨i, by omega, fun z => ?_⟩, ?_⟩
      · rcases z.1 with e | e
        · rw [v.1] at e; cases e
        · rw [v.2] at e; cases e
      · rw [G_109]
        exact in_neg (by rw [g1]; exact nI_ge (by omega) (by omega)) (ob_mk (l (by omega) a1) (ob_mk (l (by omega) a2) (in_pos ((and_0 (by omega) (by omega)).mpr v) rfl)))
    · have vi : Vis x gf gt i := by
        unfold Vis
        cases e1 : bt x (gf i) with
        | true => exact Or.inl rfl
        | false => cases e2 : bt x (gt i) with
          | true => exact Or.inr rfl
          | false => exact absurd ⟨e1, e2⟩ v
      have st : ∀ {y : Option Int32}, G_109 c9 wa 1 [x, nI i, nI 0] [] [] = y → G_109 c9 wa 0 [x, nI i] [] [] = y := fun {y} h => by
        conv => lhs; rw [G_109]
        rw [if_neg (by rw [g1]; exact nI_ge (by omega) (by omega))]
        refine ob_e (l (by omega) a1) (ob_e (l (by omega) a2) ?_)
        rw [if_neg (fun z => v ((and_0 (by omega) (by omega)).mp z))]
        exact h
      rcases inn with ⟨h1, h2⟩ | ⟨⟨k, h1, h3⟩, h2⟩
      · rcases ih with ⟨h4, h5⟩ | ⟨h4, h5⟩
        · refine Or.inl ⟨fun k a b => ?_, st (h2.trans h5)⟩
          by_cases e : k = i
          · subst e; exact ⟨vi, fun j hj => h1 j (Nat.zero_le _) hj⟩
          · exact h4 k (by omega) b
        · exact Or.inr ⟨h4, st (h2.trans h5)⟩
      · exact Or.inr ⟨⟨i, by omega, fun z => z.2 k h1 h3⟩, st h2⟩
/-- a set of rooms tells -/
def KN (x : Int32) (N : Nat) (gf gt gy : Nat → Nat) : Prop := ∀ k, k < N → Vis x gf gt k ∧ ∀ j, j < k → ¬ Bad x gf gt gy k j
theorem f_109 (hG : GoX c9 wa N R gf gt gy) : (KN x N gf gt gy ∧ F_109 c9 wa x = some 1) ∨ (¬ KN x N gf gt gy ∧ F_109 c9 wa x = some 0) := by
  unfold F_109
  rcases gl_109a (x := x) hG N 0 (by omega) with ⟨h1, h2⟩ | ⟨⟨k, h1, h3⟩, h2⟩
  · exact Or.inl ⟨fun k hk => h1 k (Nat.zero_le _) hk, h2⟩
  · exact Or.inr ⟨fun z => h3 (z k h1), h2⟩
end Known2
