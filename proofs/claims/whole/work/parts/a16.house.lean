/-! ===== house: what is read, both sides ===== -/
def HRn (c1 : Cl) (ho : Nat) (Y : Nat → Int32) (R D H Q : Nat) : Prop := (cI c1 0 ho = nI R ∧ Y 0 = nI R) ∧ (cI c1 1 ho = nI D ∧ Y 1 = nI D ∧ D ≤ 10) ∧ (cI c1 2 ho = nI H ∧ Y 2 = nI H ∧ H ≤ 6) ∧ (cI c1 3 ho = nI Q ∧ Y 3 = nI Q ∧ Q ≤ 6) ∧ (Y 4 = 0 ∧ Y 5 = 0)
def HRd (c1 : Cl) (ho : Nat) (Y : Nat → Int32) (R D : Nat) : Prop := ∀ i, i < D → ∃ x y, x < R ∧ y < R ∧ x ≠ y ∧ cA c1 5 ho i = nI x ∧ cA c1 6 ho i = nI y ∧ Y (10 + 3 * i) = nI x ∧ Y (10 + 3 * i + 1) = nI y ∧ Y (10 + 3 * i + 2) = 1
def HRh (c1 : Cl) (ho : Nat) (Y : Nat → Int32) (R H : Nat) : Prop := ∀ h, h < H → ∃ x y, x < R ∧ 1 ≤ y ∧ y ≤ 4 ∧ cA c1 7 ho h = nI x ∧ cA c1 8 ho h = nI y ∧ Y (40 + 6 * h + 0) = nI x ∧ Y (40 + 6 * h + 1) = nI y ∧ Y (40 + 6 * h + 2) = nI x ∧ Y (40 + 6 * h + 3) = -1 ∧ Y (40 + 6 * h + 4) = 0 ∧ Y (40 + 6 * h + 5) = -1
def HRr (c1 : Cl) (ho : Nat) (Y : Nat → Int32) : Prop := ∀ r, r < 6 → (∃ k, k ≤ 5 ∧ cA c1 9 ho r = nI k ∧ Y (76 + r) = nI k) ∧ ∃ m, 1 ≤ m ∧ m ≤ 99 ∧ cA c1 10 ho r = nI m ∧ Y (82 + r) = nI m
def HRs (c1 : Cl) (ho : Nat) (Y : Nat → Int32) (R Q : Nat) : Prop := ∀ s, s < Q → ∃ x, 1 ≤ x ∧ x < 2 ^ R ∧ cA c1 11 ho s = nI x ∧ Y (88 + s) = nI x
def HRf (c1 : Cl) (ho : Nat) (Y : Nat → Int32) (H : Nat) : Prop := ∀ r, r < 6 → cA c1 12 ho r = su (cf1 Y (nI r)) H
def HRl (c1 : Cl) (ho : Nat) (Y : Nat → Int32) (lg : Int32) : Prop := (lg = 0 ∧ Y 7 = -1 ∧ cI c1 4 ho = nI 3) ∨ (lg = 1 ∧ ∃ L, L ≤ 9 ∧ Y 7 = nI L ∧ cI c1 4 ho = nI L)
/-- a house of the class and the row of the reference, as far as they are read -/
def HR (c1 : Cl) (ho : Nat) (Y : Nat → Int32) (R D H Q : Nat) (lg : Int32) : Prop := HRn c1 ho Y R D H Q ∧ HRd c1 ho Y R D ∧ HRh c1 ho Y R H ∧ HRr c1 ho Y ∧ HRs c1 ho Y R Q ∧ HRf c1 ho Y H ∧ HRl c1 ho Y lg
section House
variable {c1 c1' : Cl} {ho : Nat} {Y Y' : Nat → Int32} {R D H Q : Nat} {lg : Int32}
theorem su_cg2 {f g : Nat → Int32} : ∀ {n : Nat}, (∀ i, i < n → f i = g i) → su f n = su g n
  | 0, _ => rfl
  | n + 1, h => by
    show su f n + f n = su g n + g n
    rw [su_cg2 (fun i hi => h i (by omega)), h n (by omega)]
theorem HRd_c (e5 : ∀ i, i < D → cA c1' 5 ho i = cA c1 5 ho i) (e6 : ∀ i, i < D → cA c1' 6 ho i = cA c1 6 ho i) (hY : ∀ j, 10 ≤ j → j < 10 + 3 * D → Y' j = Y j) (h : HRd c1 ho Y R D) : HRd c1' ho Y' R D := fun i hi => by
  rw [e5 i hi, e6 i hi, hY _ (by omega) (by omega), hY _ (by omega) (by omega), hY _ (by omega) (by omega)]; exact h i hi
theorem HRh_c (e7 : ∀ i, i < H → cA c1' 7 ho i = cA c1 7 ho i) (e8 : ∀ i, i < H → cA c1' 8 ho i = cA c1 8 ho i) (hY : ∀ j, 40 ≤ j → j < 40 + 6 * H → Y' j = Y j) (h : HRh c1 ho Y R H) : HRh c1' ho Y' R H := fun i hi => by
  rw [e7 i hi, e8 i hi, hY _ (by omega) (by omega), hY _ (by omega) (by omega), hY _ (by omega) (by omega), hY _ (by omega) (by omega), hY _ (by omega) (by omega), hY _ (by omega) (by omega)]; exact h i hi
theorem HRr_c (e9 : cA c1' 9 ho = cA c1 9 ho) (e10 : cA c1' 10 ho = cA c1 10 ho) (hY : ∀ j, 76 ≤ j → j < 88 → Y' j = Y j) (h : HRr c1 ho Y) : HRr c1' ho Y' := fun r hr => by
  rw [e9, e10, hY _ (by omega) (by omega), hY _ (by omega) (by omega)]; exact h r hr
theorem HRs_c (e11 : ∀ i, i < Q → cA c1' 11 ho i = cA c1 11 ho i) (hY : ∀ j, 88 ≤ j → j < 88 + Q → Y' j = Y j) (h : HRs c1 ho Y R Q) : HRs c1' ho Y' R Q := fun s hs => by
  rw [e11 s hs, hY _ (by omega) (by omega)]; exact h s hs
theorem HRf_c (e12 : cA c1' 12 ho = cA c1 12 ho) (hY : ∀ j, 40 ≤ j → j < 40 + 6 * H → Y' j = Y j) (h : HRf c1 ho Y H) : HRf c1' ho Y' H := fun r hr => by
  rw [e12, h r hr]
  refine su_cg2 fun i hi => ?_
  unfold cf1
  rw [hY _ (by omega) (by omega), hY _ (by omega) (by omega)]
theorem HRl_c (e4 : cI c1' 4 ho = cI c1 4 ho) (hY : Y' 7 = Y 7) (h : HRl c1 ho Y lg) : HRl c1' ho Y' lg := by
  unfold HRl; rw [e4, hY]; exact h
/-- a door more -/
theorem HR_door {x y : Nat} (k : Kp [1, 5, 6] c1 c1') (hD : D < 10) (hx : x < R) (hy : y < R) (hxy : x ≠ y) (e1 : cI c1' 1 ho = nI (D + 1)) (e5 : cA c1' 5 ho = upd (cA c1 5 ho) D (nI x)) (e6 : cA c1' 6 ho = upd (cA c1 6 ho) D (nI y)) (hY : ∀ j, j ≠ 1 → j ≠ 10 + 3 * D → j ≠ 10 + 3 * D + 1 → j ≠ 10 + 3 * D + 2 → Y' j = Y j) (y1 : Y' 1 = nI (D + 1)) (yx : Y' (10 + 3 * D) = nI x) (yy : Y' (10 + 3 * D + 1) = nI y) (yo : Y' (10 + 3 * D + 2) = 1) (h : HR c1 ho Y R D H Q lg) : HR c1' ho Y' R (D + 1) H Q lg := by
  obtain ⟨⟨⟨n0, m0⟩, ⟨n1, m1, d10⟩, ⟨n2, m2, h6⟩, ⟨n3, m3, q6⟩, m4, m5⟩, hd, hh, hr, hs, hf, hl⟩ := h
  have kI : ∀ j, j ≠ 1 → j ≠ 5 → j ≠ 6 → cI c1' j ho = cI c1 j ho := fun j a b c => by rw [(k j (by simp; exact ⟨a, b, c⟩)).1]
  have kA : ∀ j, j ≠ 1 → j ≠ 5 → j ≠ 6 → cA c1' j ho = cA c1 j ho := fun j a b c => by rw [(k j (by simp; exact ⟨a, b, c⟩)).2.2.2.1]
  refine ⟨⟨⟨by rw [kI 0 (by decide) (by decide) (by decide)]; exact n0, by rw [hY 0 (by omega) (by omega) (by omega) (by omega)]; exact m0⟩, ⟨e1, y1, by omega⟩, ⟨by rw [kI 2 (by decide) (by decide) (by decide)]; exact n2, by rw [hY 2 (by omega) (by omega) (by omega) (by omega)]; exact m2, h6⟩, ⟨by rw [kI 3 (by decide) (by decide) (by decide)]; exact n3, by rw [hY 3 (by omega) (by omega) (by omega) (by omega)]; exact m3, q6⟩, by rw [hY 4 (by omega) (by omega) (by omega) (by omega)]; exact m4, by rw [hY 5 (by omega) (by omega) (by omega) (by omega)]; exact m5⟩, ?_, ?_, ?_, ?_, ?_, ?_⟩
  · intro i hi
    by_cases w : i = D
    · subst w
      exact ⟨x, y, hx, hy, hxy, by rw [e5, pk_us], by rw [e6, pk_us], yx, yy, yo⟩
    · rw [e5, e6, pk_un w, pk_un w, hY _ (by omega) (by omega) (by omega) (by omega), hY _ (by omega) (by omega) (by omega) (by omega), hY _ (by omega) (by omega) (by omega) (by omega)]
      exact hd i (by omega)
  · exact HRh_c (fun i _ => by rw [kA 7 (by decide) (by decide) (by decide)]) (fun i _ => by rw [kA 8 (by decide) (by decide) (by decide)]) (fun j j1 j2 => hY j (by omega) (by omega) (by omega) (by omega)) hh
  · exact HRr_c (kA 9 (by decide) (by decide) (by decide)) (kA 10 (by decide) (by decide) (by decide)) (fun j j1 j2 => hY j (by omega) (by omega) (by omega) (by omega)) hr
  · exact HRs_c (fun i _ => by rw [kA 11 (by decide) (by decide) (by decide)]) (fun j j1 j2 => hY j (by omega) (by omega) (by omega) (by omega)) hs
  · exact HRf_c (kA 12 (by decide) (by decide) (by decide)) (fun j j1 j2 => hY j (by omega) (by omega) (by omega) (by omega)) hf
  · exact HRl_c (kI 4 (by decide) (by decide) (by decide)) (hY 7 (by omega) (by omega) (by omega) (by omega)) hl
/-- a head more -/
theorem HR_head {x y : Nat} (k : Kp [2, 7, 8, 12] c1 c1') (hH : H < 6) (r6 : R ≤ 6) (hx : x < R) (hy : 1 ≤ y) (hy4 : y ≤ 4) (e2 : cI c1' 2 ho = nI (H + 1)) (e7 : cA c1' 7 ho = upd (cA c1 7 ho) H (nI x)) (e8 : cA c1' 8 ho = upd (cA c1 8 ho) H (nI y)) (e12 : cA c1' 12 ho = upd (cA c1 12 ho) x (cA c1 12 ho x + nI y)) (hY : ∀ j, j ≠ 2 → (j < 40 + 6 * H ∨ 40 + 6 * H + 6 ≤ j) → Y' j = Y j) (y2 : Y' 2 = nI (H + 1)) (g0 : Y' (40 + 6 * H + 0) = nI x) (g1 : Y' (40 + 6 * H + 1) = nI y) (g2 : Y' (40 + 6 * H + 2) = nI x) (g3 : Y' (40 + 6 * H + 3) = -1) (g4 : Y' (40 + 6 * H + 4) = 0) (g5 : Y' (40 + 6 * H + 5) = -1) (h : HR c1 ho Y R D H Q lg) : HR c1' ho Y' R D (H + 1) Q lg := by
  obtain ⟨⟨⟨n0, m0⟩, ⟨n1, m1, d10⟩, ⟨n2, m2, h6⟩, ⟨n3, m3, q6⟩, m4, m5⟩, hd, hh, hr, hs, hf, hl⟩ := h
  have kI : ∀ j, j ≠ 2 → j ≠ 7 → j ≠ 8 → j ≠ 12 → cI c1' j ho = cI c1 j ho := fun j a b c d => by rw [(k j (by simp; exact ⟨a, b, c, d⟩)).1]
  have kA : ∀ j, j ≠ 2 → j ≠ 7 → j ≠ 8 → j ≠ 12 → cA c1' j ho = cA c1 j ho := fun j a b c d => by rw [(k j (by simp; exact ⟨a, b, c, d⟩)).2.2.2.1]
  refine ⟨⟨⟨by rw [kI 0 (by decide) (by decide) (by decide) (by decide)]; exact n0, by rw [hY 0 (by omega) (by omega)]; exact m0⟩, ⟨by rw [kI 1 (by decide) (by decide) (by decide) (by decide)]; exact n1, by rw [hY 1 (by omega) (by omega)]; exact m1, d10⟩, ⟨e2, y2, by omega⟩, ⟨by rw [kI 3 (by decide) (by decide) (by decide) (by decide)]; exact n3, by rw [hY 3 (by omega) (by omega)]; exact m3, q6⟩, by rw [hY 4 (by omega) (by omega)]; exact m4, by rw [hY 5 (by omega) (by omega)]; exact m5⟩, ?_, ?_, ?_, ?_, ?_, ?_⟩
  · exact HRd_c (fun i _ => by rw [kA 5 (by decide) (by decide) (by decide) (by decide)]) (fun i _ => by rw [kA 6 (by decide) (by decide) (by decide) (by decide)]) (fun j j1 j2 => hY j (by omega) (by omega)) hd
  · intro i hi
    by_cases w : i = H
    · subst w
      exact ⟨x, y, hx, hy, hy4, by rw [e7, pk_us], by rw [e8, pk_us], g0, g1, g2, g3, g4, g5⟩
    · rw [e7, e8, pk_un w, pk_un w, hY _ (by omega) (by omega), hY _ (by omega) (by omega), hY _ (by omega) (by omega), hY _ (by omega) (by omega), hY _ (by omega) (by omega), hY _ (by omega) (by omega)]
      exact hh i (by omega)
  · exact HRr_c (kA 9 (by decide) (by decide) (by decide) (by decide)) (kA 10 (by decide) (by decide) (by decide) (by decide)) (fun j j1 j2 => hY j (by omega) (by omega)) hr
  · exact HRs_c (fun i _ => by rw [kA 11 (by decide) (by decide) (by decide) (by decide)]) (fun j j1 j2 => hY j (by omega) (by omega)) hs
  · intro r hr'
    have e : su (cf1 Y' (nI r)) H = su (cf1 Y (nI r)) H := su_cg2 fun i hi => by
      unfold cf1
      rw [hY _ (by omega) (by omega), hY _ (by omega) (by omega)]
    show _ = su (cf1 Y' (nI r)) H + cf1 Y' (nI r) H
    rw [e, e12]
    unfold cf1
    rw [g2, g1]
    by_cases w : r = x
    · rw [w, pk_us, if_pos rfl, hf x (by omega)]
      rfl
    · rw [pk_un w, if_neg (fun z => w ((nI_eq (by omega) (by omega)).mp z.symm)), hf r hr']
      exact (Int32.add_zero _).symm
  · exact HRl_c (kI 4 (by decide) (by decide) (by decide) (by decide)) (hY 7 (by omega) (by omega)) hl
/-- a sense more -/
theorem HR_sense {x : Nat} (k : Kp [3, 11] c1 c1') (hQ : Q < 6) (hx : 1 ≤ x) (hx2 : x < 2 ^ R) (e3 : cI c1' 3 ho = nI (Q + 1)) (e11 : cA c1' 11 ho = upd (cA c1 11 ho) Q (nI x)) (hY : ∀ j, j ≠ 3 → j ≠ 88 + Q → Y' j = Y j) (y3 : Y' 3 = nI (Q + 1)) (yx : Y' (88 + Q) = nI x) (h : HR c1 ho Y R D H Q lg) : HR c1' ho Y' R D H (Q + 1) lg := by
  obtain ⟨⟨⟨n0, m0⟩, ⟨n1, m1, d10⟩, ⟨n2, m2, h6⟩, ⟨n3, m3, q6⟩, m4, m5⟩, hd, hh, hr, hs, hf, hl⟩ := h
  have kI : ∀ j, j ≠ 3 → j ≠ 11 → cI c1' j ho = cI c1 j ho := fun j a b => by rw [(k j (by simp; exact ⟨a, b⟩)).1]
  have kA : ∀ j, j ≠ 3 → j ≠ 11 → cA c1' j ho = cA c1 j ho := fun j a b => by rw [(k j (by simp; exact ⟨a, b⟩)).2.2.2.1]
  refine ⟨⟨⟨by rw [kI 0 (by decide) (by decide)]; exact n0, by rw [hY 0 (by omega) (by omega)]; exact m0⟩, ⟨by rw [kI 1 (by decide) (by decide)]; exact n1, by rw [hY 1 (by omega) (by omega)]; exact m1, d10⟩, ⟨by rw [kI 2 (by decide) (by decide)]; exact n2, by rw [hY 2 (by omega) (by omega)]; exact m2, h6⟩, ⟨e3, y3, by omega⟩, by rw [hY 4 (by omega) (by omega)]; exact m4, by rw [hY 5 (by omega) (by omega)]; exact m5⟩, ?_, ?_, ?_, ?_, ?_, ?_⟩
  · exact HRd_c (fun i _ => by rw [kA 5 (by decide) (by decide)]) (fun i _ => by rw [kA 6 (by decide) (by decide)]) (fun j j1 j2 => hY j (by omega) (by omega)) hd
  · exact HRh_c (fun i _ => by rw [kA 7 (by decide) (by decide)]) (fun i _ => by rw [kA 8 (by decide) (by decide)]) (fun j j1 j2 => hY j (by omega) (by omega)) hh
  · exact HRr_c (kA 9 (by decide) (by decide)) (kA 10 (by decide) (by decide)) (fun j j1 j2 => hY j (by omega) (by omega)) hr
  · intro s hs'
    by_cases w : s = Q
    · subst w
      exact ⟨x, hx, hx2, by rw [e11, pk_us], yx⟩
    · rw [e11, pk_un w, hY _ (by omega) (by omega)]; exact hs s (by omega)
  · exact HRf_c (kA 12 (by decide) (by decide)) (fun j j1 j2 => hY j (by omega) (by omega)) hf
  · exact HRl_c (kI 4 (by decide) (by decide)) (hY 7 (by omega) (by omega)) hl
/-- a delay, or how many a room may hold -/
theorem HR_room {x v : Nat} {s : Nat} (hs' : (s = 9 ∧ v ≤ 5) ∨ (s = 10 ∧ 1 ≤ v ∧ v ≤ 99)) (k : Kp [s] c1 c1') (hx : x < 6) (e9 : cA c1' s ho = upd (cA c1 s ho) x (nI v)) {w0 : Nat} (hw : w0 = if s = 9 then 76 + x else 82 + x) (hY : ∀ j, j ≠ w0 → Y' j = Y j) (yv : Y' w0 = nI v) (h : HR c1 ho Y R D H Q lg) : HR c1' ho Y' R D H Q lg := by
  obtain ⟨⟨⟨n0, m0⟩, ⟨n1, m1, d10⟩, ⟨n2, m2, h6⟩, ⟨n3, m3, q6⟩, m4, m5⟩, hd, hh, hr, hs, hf, hl⟩ := h
  have w1 : 76 ≤ w0 ∧ w0 < 88 := by rcases hs' with ⟨a, _⟩ | ⟨a, _⟩ <;> subst a <;> simp at hw <;> omega
  have s9 : s = 9 ∨ s = 10 := by rcases hs' with ⟨a, _⟩ | ⟨a, _⟩; exact Or.inl a; exact Or.inr a
  have kI : ∀ j, j ≠ s → cI c1' j ho = cI c1 j ho := fun j a => by rw [(k j (by simp; exact a)).1]
  have kA : ∀ j, j ≠ s → cA c1' j ho = cA c1 j ho := fun j a => by rw [(k j (by simp; exact a)).2.2.2.1]
  refine ⟨⟨⟨by rw [kI 0 (by omega)]; exact n0, by rw [hY 0 (by omega)]; exact m0⟩, ⟨by rw [kI 1 (by omega)]; exact n1, by rw [hY 1 (by omega)]; exact m1, d10⟩, ⟨by rw [kI 2 (by omega)]; exact n2, by rw [hY 2 (by omega)]; exact m2, h6⟩, ⟨by rw [kI 3 (by omega)]; exact n3, by rw [hY 3 (by omega)]; exact m3, q6⟩, by rw [hY 4 (by omega)]; exact m4, by rw [hY 5 (by omega)]; exact m5⟩, ?_, ?_, ?_, ?_, ?_, ?_⟩
  · exact HRd_c (fun i _ => by rw [kA 5 (by omega)]) (fun i _ => by rw [kA 6 (by omega)]) (fun j j1 j2 => hY j (by omega)) hd
  · exact HRh_c (fun i _ => by rw [kA 7 (by omega)]) (fun i _ => by rw [kA 8 (by omega)]) (fun j j1 j2 => hY j (by omega)) hh
  · intro r hr'
    obtain ⟨⟨a, a1, a2, a3⟩, b, b1, b2, b3, b4⟩ := hr r hr'
    rcases hs' with ⟨s0, v5⟩ | ⟨s0, v1, v99⟩
    · subst s0
      rw [if_pos rfl] at hw
      rw [e9, kA 10 (by decide), hY (82 + r) (by omega)]
      refine ⟨?_, b, b1, b2, b3, b4⟩
      by_cases z : r = x
      · subst z; exact ⟨v, v5, pk_us, by rw [← hw]; exact yv⟩
      · rw [pk_un z, hY (76 + r) (by omega)]; exact ⟨a, a1, a2, a3⟩
    · subst s0
      rw [if_neg (by decide)] at hw
      rw [e9, kA 9 (by decide), hY (76 + r) (by omega)]
      refine ⟨⟨a, a1, a2, a3⟩, ?_⟩
      by_cases z : r = x
      · subst z; exact ⟨v, v1, v99, pk_us, by rw [← hw]; exact yv⟩
      · rw [pk_un z, hY (82 + r) (by omega)]; exact ⟨b, b1, b2, b3, b4⟩
  · exact HRs_c (fun i _ => by rw [kA 11 (by omega)]) (fun j j1 j2 => hY j (by omega)) hs
  · exact HRf_c (kA 12 (by omega)) (fun j j1 j2 => hY j (by omega)) hf
  · exact HRl_c (kI 4 (by omega)) (hY 7 (by omega)) hl
theorem HR_linger {v : Nat} (k : Kp [4] c1 c1') (hv : v ≤ 9) (e4 : cI c1' 4 ho = nI v) (hY : ∀ j, j ≠ 7 → Y' j = Y j) (y7 : Y' 7 = nI v) (h : HR c1 ho Y R D H Q lg) : HR c1' ho Y' R D H Q 1 := by
  obtain ⟨⟨⟨n0, m0⟩, ⟨n1, m1, d10⟩, ⟨n2, m2, h6⟩, ⟨n3, m3, q6⟩, m4, m5⟩, hd, hh, hr, hs, hf, hl⟩ := h
  have kI : ∀ j, j ≠ 4 → cI c1' j ho = cI c1 j ho := fun j a => by rw [(k j (by simp; exact a)).1]
  have kA : ∀ j, j ≠ 4 → cA c1' j ho = cA c1 j ho := fun j a => by rw [(k j (by simp; exact a)).2.2.2.1]
  refine ⟨⟨⟨by rw [kI 0 (by omega)]; exact n0, by rw [hY 0 (by omega)]; exact m0⟩, ⟨by rw [kI 1 (by omega)]; exact n1, by rw [hY 1 (by omega)]; exact m1, d10⟩, ⟨by rw [kI 2 (by omega)]; exact n2, by rw [hY 2 (by omega)]; exact m2, h6⟩, ⟨by rw [kI 3 (by omega)]; exact n3, by rw [hY 3 (by omega)]; exact m3, q6⟩, by rw [hY 4 (by omega)]; exact m4, by rw [hY 5 (by omega)]; exact m5⟩, ?_, ?_, ?_, ?_, ?_, Or.inr ⟨rfl, v, hv, y7, e4⟩⟩
  · exact HRd_c (fun i _ => by rw [kA 5 (by omega)]) (fun i _ => by rw [kA 6 (by omega)]) (fun j j1 j2 => hY j (by omega)) hd
  · exact HRh_c (fun i _ => by rw [kA 7 (by omega)]) (fun i _ => by rw [kA 8 (by omega)]) (fun j j1 j2 => hY j (by omega)) hh
  · exact HRr_c (kA 9 (by omega)) (kA 10 (by omega)) (fun j j1 j2 => hY j (by omega)) hr
  · exact HRs_c (fun i _ => by rw [kA 11 (by omega)]) (fun j j1 j2 => hY j (by omega)) hs
  · exact HRf_c (kA 12 (by omega)) (fun j j1 j2 => hY j (by omega)) hf
end House
