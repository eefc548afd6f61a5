/-! ===== the invariant: its pieces ===== -/
/-- what is fixed: who refers to whom (p 0: the object, p 1: the reference, p k: what the object's slot k holds) -/
def PF (p : Nat → Nat) (c0 c2 c3 c5 c7 c9 c11 : Cl) : Prop := (cR c11 2 (p 0) = p 2 ∧ cR c11 3 (p 0) = p 3 ∧ cR c11 4 (p 0) = p 4 ∧ cR c11 7 (p 0) = p 7 ∧ cR c11 9 (p 0) = p 9 ∧ cR c11 12 (p 0) = p 12 ∧ cR c11 13 (p 0) = p 13 ∧ cR c11 14 (p 0) = p 14) ∧ cR c0 0 (p 13) = p 11 ∧ cR c2 0 (p 3) = p 2 ∧ cR c3 0 (p 2) = p 0 ∧ cR c5 0 (p 4) = p 2 ∧ cR c7 0 (p 12) = p 11 ∧ cR c9 0 (p 14) = p 11
theorem PF_k {p : Nat → Nat} {c0 c2 c3 c5 c7 c9 c11 c0' c2' c3' c5' c7' c9' c11' : Cl} (k0 : cR c0' 0 = cR c0 0) (k2 : cR c2' 0 = cR c2 0) (k3 : cR c3' 0 = cR c3 0) (k5 : cR c5' 0 = cR c5 0) (k7 : cR c7' 0 = cR c7 0) (k9 : cR c9' 0 = cR c9 0) (k11 : Kp [0, 1, 5, 6, 8, 10] c11 c11') (h : PF p c0 c2 c3 c5 c7 c9 c11) : PF p c0' c2' c3' c5' c7' c9' c11' := by
  unfold PF
  rw [k0, k2, k3, k5, k7, k9, (k11 2 (by decide)).2.2.1, (k11 3 (by decide)).2.2.1, (k11 4 (by decide)).2.2.1, (k11 7 (by decide)).2.2.1, (k11 9 (by decide)).2.2.1, (k11 12 (by decide)).2.2.1, (k11 13 (by decide)).2.2.1, (k11 14 (by decide)).2.2.1]
  exact h
/-- slots above a number -/
theorem kp_hi {K : List Nat} {c c' : Cl} {m : Nat} (h : Kp K c c') (hk : ∀ k, k ∈ K → k < m) : ∀ k, m ≤ k → cA c' k = cA c k := fun k a => (h k (fun z => absurd (hk k z) (by omega))).2.2.2.1
section Piece
variable {c1 c1' c4 c4' c6 c6' c7 c8 c8' c9 c9' c10 c10' c11 c11' c12 c12' c13 c13' : Cl} {d d' : Ad} {B B2 w tr X X' : Nat} {A : Nat → Nat} {R D H Q L : Nat} {K : Nat → Nat}
theorem WM_c (h8 : ∀ i, i ≤ 20 → Sm8 c8 (A i) c8' (A i)) (h1 : ∀ ho, ho < X → Sm1 c1 c1' ho) (h10 : Sw c10 c10' w) (hS : ∀ j, j < 221 → cA c12' 20 B2 j = cA c12 20 B2 j) (m22 : cA c12' 22 B2 = cA c12 22 B2) (m21 : cI c12' 21 B2 = cI c12 21 B2) (m23 : cI c12' 23 B2 = cI c12 23 B2) (hX : X ≤ X') (h : WM c1 c8 c10 c12 B2 w A X R D H Q L K) : WM c1' c8' c10' c12' B2 w A X' R D H Q L K := by
  obtain ⟨U, hU, hw⟩ := h
  refine ⟨U, by rw [m23]; exact hU, ?_⟩
  rw [m22, m21]
  exact WR_c h8 h1 h10 hS (fun _ _ => rfl) hX hw
theorem WM_x (hX : X ≤ X') (h : WM c1 c8 c10 c12 B2 w A X R D H Q L K) : WM c1 c8 c10 c12 B2 w A X' R D H Q L K := WM_c (fun _ _ => Sm8.rf _ _) (fun _ _ => Sm1.rf _ _) (Sw.rf _ _) (fun _ _ => rfl) rfl rfl rfl hX h
theorem WM_sum {sr : Nat} {T : Nat → Int32} (h : WM c1 c8 c10 c12 B2 w A X R D H Q L K) (e : Sme (cA c12 20 B2) T) (hs : SUM c7 sr (cA c12 20 B2) R D H) : SUM c7 sr T R D H := by
  obtain ⟨U, hU, hw⟩ := h
  obtain ⟨k, k12, t1, t2, t3, t4, t5⟩ := told_ok hw
  obtain ⟨-, -, -, ⟨M, E, m9, s⟩, -⟩ := hw
  obtain ⟨⟨-, -, r6⟩, ⟨-, -, d10⟩, ⟨-, -, h6⟩, ⟨-, -, q6⟩, -⟩ := s.1.1
  exact SUM_sm e h6 q6 d10 r6 t3 t5 k12 rfl hs
/-- the images -/
theorem IMr_c {k : Nat} (h8 : ∀ i, i ≤ 20 → Sm8 c8 (A i) c8' (A i)) (h1 : ∀ ho, ho < X → Sm1 c1 c1' ho) (h10 : Sw c10 c10' w) (hi : k < 4) (hm : (∀ i, i < 221 → cA c12' 47 B2 (221 * k + i) = cA c12 47 B2 (221 * k + i)) ∧ (∀ i, i < 3680 → cA c12' 48 B2 (3680 * k + i) = cA c12 48 B2 (3680 * k + i)) ∧ cA c12' 49 B2 k = cA c12 49 B2 k ∧ cA c12' 50 B2 k = cA c12 50 B2 k) (hX : X ≤ X') (h : IMr c1 c8 c10 c12 B2 k w A X) : IMr c1' c8' c10' c12' B2 k w A X' := by
  obtain ⟨U, R, D, H, Q, L, K, a, b⟩ := h
  have u20 : U ≤ 20 := by obtain ⟨-, -, -, -, ⟨o, -, -, -, z, -⟩, -⟩ := b; exact z
  refine ⟨U, R, D, H, Q, L, K, by rw [hm.2.2.1]; exact a, ?_⟩
  rw [hm.2.2.2]
  exact WR_c h8 h1 h10 (fun j hj => hm.1 j hj) (fun j hj => hm.2.1 j (by omega)) hX b
/-- one that is there -/
def IM1 (c1 c8 c10 c12 : Cl) (B2 w tr : Nat) (A : Nat → Nat) (X k wk : Nat) (Ak : Nat → Nat) : Prop := cA c12 51 B2 k = 1 ∧ IMr c1 c8 c10 c12 B2 k wk Ak X ∧ (w ≠ wk ∧ wk < X) ∧ (∀ i j, i ≤ 20 → j ≤ 20 → Ak i = Ak j → i = j) ∧ (∀ i, i ≤ 20 → Ak i < X ∧ Ak i ≠ tr) ∧ (∀ i j, i ≤ 20 → j ≤ 20 → Ak i ≠ A j)
def IMS (c1 c8 c10 c11 c12 : Cl) (B B2 w tr : Nat) (A : Nat → Nat) (X : Nat) : Prop := ∃ (WI : Nat → Nat) (AI : Nat → Nat → Nat), (∀ k, k < 4 → (cA c12 51 B2 k = 0 ∧ cQ c11 8 B k = none) ∨ (cQ c11 8 B k = some (WI k) ∧ IM1 c1 c8 c10 c12 B2 w tr A X k (WI k) (AI k))) ∧ (∀ k j, k < 4 → j < 4 → k ≠ j → cQ c11 8 B k ≠ none → cQ c11 8 B j ≠ none → WI k ≠ WI j ∧ ∀ i i', i ≤ 20 → i' ≤ 20 → AI k i ≠ AI j i')
theorem IMS_c (h8 : ∀ a, a < X → (∀ i, i ≤ 20 → a ≠ A i) → a ≠ tr → Sm8 c8 a c8' a) (h1 : ∀ ho, ho < X → Sm1 c1 c1' ho) (h10 : ∀ a, a < X → a ≠ w → Sw c10 c10' a) (h11 : cQ c11' 8 B = cQ c11 8 B) (h12 : ∀ k, 47 ≤ k → cA c12' k = cA c12 k) (hX : X ≤ X') (h : IMS c1 c8 c10 c11 c12 B B2 w tr A X) : IMS c1' c8' c10' c11' c12' B B2 w tr A X' := by
  obtain ⟨WI, AI, a, b⟩ := h
  refine ⟨WI, AI, fun k hk => ?_, by rw [h11]; exact b⟩
  rw [h11]
  rcases a k hk with ⟨e1, e2⟩ | ⟨e1, e2, e3, ⟨e4, e5⟩, e6, e7, e8⟩
  · exact Or.inl ⟨by rw [h12 51 (by decide)]; exact e1, e2⟩
  · refine Or.inr ⟨e1, by rw [h12 51 (by decide)]; exact e2, ?_, ⟨e4, by omega⟩, e6, fun i hi => ⟨by have := (e7 i hi).1; omega, (e7 i hi).2⟩, e8⟩
    refine IMr_c (fun i hi => h8 _ (e7 i hi).1 (fun j hj => e8 i j hi hj) (e7 i hi).2) h1 (h10 _ e5 (fun z => e4 z.symm)) hk ?_ hX e3
    rw [h12 47 (by decide), h12 48 (by decide), h12 49 (by decide), h12 50 (by decide)]
    exact ⟨fun _ _ => rfl, fun _ _ => rfl, rfl, rfl⟩
/-- rules' arrays lie apart from rows -/
def APx (B : Nat) (c4 c11 : Cl) (X : Nat) (LL : List Nat) : Prop := ∀ i r, cQ c11 5 B i = some r → r < X ∧ ∀ k, k < 3 → cR c4 k r < X ∧ cR c4 k r ∉ LL
theorem RRx_g (hA : Adm d d') (h4 : ∀ k, k < 3 → cR c4' k = cR c4 k) (g6 : cI c11' 6 B = cI c11 6 B) (g5 : cQ c11' 5 B = cQ c11 5 B) (m2 : cI c12' 2 B2 = cI c12 2 B2) (m3 : cA c12' 3 B2 = cA c12 3 B2) (m5 : cA c12' 5 B2 = cA c12 5 B2) (m6 : cA c12' 6 B2 = cA c12 6 B2) (h13 : ∀ i r k, cQ c11 5 B i = some r → k < 3 → cA c13' 0 (cR c4 k r) = cA c13 0 (cR c4 k r)) (h : RRx c4 c11 c12 c13 d B B2) : RRx c4' c11' c12' c13' d' B B2 := by
  obtain ⟨N, n6, a1, a2, a3⟩ := h
  refine ⟨N, n6, by rw [g6]; exact a1, by rw [m2]; exact a2, fun i hi => ?_⟩
  obtain ⟨r, b1, ⟨b2, b3, b4, b5⟩, b6⟩ := a3 i hi
  refine ⟨r, by rw [g5]; exact b1, ?_, ?_⟩
  · rw [h4 0 (by decide), h4 1 (by decide), h4 2 (by decide)]
    exact ⟨Nat.lt_of_lt_of_le b2 hA.1, Nat.lt_of_lt_of_le b3 hA.1, Nat.lt_of_lt_of_le b4 hA.1, Nat.lt_of_lt_of_le b5 hA.1⟩
  · unfold RuR at b6 ⊢
    rw [h4 0 (by decide), h4 1 (by decide), h4 2 (by decide), h13 i r 0 b1 (by decide), h13 i r 1 b1 (by decide), h13 i r 2 b1 (by decide), hA.2.1 _ b3, hA.2.1 _ b4, hA.2.1 _ b5, m3, m5, m6]
    exact b6
theorem Rows_k {sc P Pq P' Pq' Z Z' : Nat} (hA : Adm d d') (k6 : Kp [0, 1, 2, 3, 4, 5, 6, 7, 8, 9, 10, 11] c6 c6') (h : Rows c6 d sc P Pq P' Pq' Z Z') : Rows c6' d' sc P Pq P' Pq' Z Z' := by
  obtain ⟨⟨r1, r2, r3, r4⟩, ⟨a1, a2, a3, a4⟩, z, ⟨x1, x2, x3, x4⟩, y⟩ := h
  refine ⟨?_, ?_, z, ?_, y⟩
  · rw [(k6 12 (by decide)).2.2.1, (k6 13 (by decide)).2.2.1, (k6 14 (by decide)).2.2.1, (k6 15 (by decide)).2.2.1]; exact ⟨r1, r2, r3, r4⟩
  · rw [hA.2.1 _ x1, hA.2.1 _ x2, hA.2.1 _ x3, hA.2.1 _ x4]; exact ⟨a1, a2, a3, a4⟩
  · exact ⟨Nat.lt_of_lt_of_le x1 hA.1, Nat.lt_of_lt_of_le x2 hA.1, Nat.lt_of_lt_of_le x3 hA.1, Nat.lt_of_lt_of_le x4 hA.1⟩
theorem Rw2_k {w Y Y' : Nat} (hA : Adm d d') (k5 : cR c9' 5 = cR c9 5) (k6 : cR c9' 6 = cR c9 6) (y1 : Y < aX d) (y2 : Y' < aX d) (h : Rw2 c9 d w Y Y') : Rw2 c9' d' w Y Y' := by
  unfold Rw2
  rw [k5, k6, hA.2.1 _ y1, hA.2.1 _ y2]
  exact h
/-- rows and rules -/
def RW8 (p : Nat → Nat) (c4 c6 c9 c11 c12 c13 : Cl) (d : Ad) (s P Pq P' Pq' Z Z' Y Y' : Nat) : Prop := RRx c4 c11 c12 c13 d (p 0) (p 1) ∧ Rows c6 d (p 11) P Pq P' Pq' Z Z' ∧ ((∀ s, s < Z → cB c13 0 P s = 0) ∧ (∀ s, s < Z' → cB c13 0 P' s = 0)) ∧ Rw2 c9 d (p 14) Y Y' ∧ (Y < aX d ∧ Y' < aX d) ∧ (Y ∉ [P, Pq, P', Pq'] ∧ Y' ∉ [P, Pq, P', Pq']) ∧ APx (p 0) c4 c11 (aX d) [P, Pq, P', Pq', Y, Y'] ∧ aS d ≤ s + (pot Z + pot Z')
def RWS (p : Nat → Nat) (c4 c6 c9 c11 c12 c13 : Cl) (d : Ad) (s : Nat) : Prop := ∃ P Pq P' Pq' Z Z' Y Y', RW8 p c4 c6 c9 c11 c12 c13 d s P Pq P' Pq' Z Z' Y Y'
variable {p : Nat → Nat} {s s' P Pq P' Pq' Z Z' Y Y' : Nat}
theorem RWS_k (hA : Adm d d') (hS : aS d' + s ≤ aS d + s') (k4 : ∀ k, k < 3 → cR c4' k = cR c4 k) (k6 : Kp [0, 1, 2, 3, 4, 5, 6, 7, 8, 9, 10, 11] c6 c6') (k95 : cR c9' 5 = cR c9 5) (k96 : cR c9' 6 = cR c9 6) (g6 : cI c11' 6 (p 0) = cI c11 6 (p 0)) (g5 : cQ c11' 5 (p 0) = cQ c11 5 (p 0)) (m2 : cI c12' 2 = cI c12 2) (m3 : cA c12' 3 = cA c12 3) (m5 : cA c12' 5 = cA c12 5) (m6 : cA c12' 6 = cA c12 6) (h : RWS p c4 c6 c9 c11 c12 c13 d s) : RWS p c4' c6' c9' c11' c12' c13 d' s' := by
  obtain ⟨P, Pq, P', Pq', Z, Z', Y, Y', a1, a2, a3, a4, ⟨a5, a6⟩, a7, a8, a9⟩ := h
  refine ⟨P, Pq, P', Pq', Z, Z', Y, Y', RRx_g hA k4 g6 g5 (by rw [m2]) (by rw [m3]) (by rw [m5]) (by rw [m6]) (fun _ _ _ _ _ => rfl) a1, Rows_k hA k6 a2, a3, Rw2_k hA k95 k96 a5 a6 a4, ⟨Nat.lt_of_lt_of_le a5 hA.1, Nat.lt_of_lt_of_le a6 hA.1⟩, a7, fun i r q => ?_, by omega⟩
  rw [g5] at q
  obtain ⟨b1, b2⟩ := a8 i r q
  refine ⟨Nat.lt_of_lt_of_le b1 hA.1, fun k hk => ?_⟩
  rw [k4 k hk]
  exact ⟨Nat.lt_of_lt_of_le (b2 k hk).1 hA.1, (b2 k hk).2⟩
/-- behind a search -/
theorem RW8_s {k : Nat} (hs : s ≤ s') (h : RW8 p c4 c6 c9 c11 c12 c13 d s P Pq P' Pq' Z Z' Y Y') (hz : RZt c6' c13' d' (p 11) d c13 [P, Pq, P', Pq'] Z Z' k) : RWS p c4 c6' c9 c11 c12 c13' d' s' ∧ Adm d d' ∧ aX d' ≤ aX d + k := by
  obtain ⟨a1, a2, a3, a4, ⟨a5, a6⟩, ⟨a7, a7'⟩, a8, a9⟩ := h
  obtain ⟨T, Tq, T', Tq', V, V', b1, b2, b3, ⟨b4, b5⟩, ⟨b6, b7⟩, b8⟩ := hz
  have ny : ∀ a, a < aX d → a ∉ [P, Pq, P', Pq'] → a ∉ [T, Tq, T', Tq'] := fun a ha n z => (b5 a z).elim n (fun y => absurd ha (Nat.not_lt.mpr y))
  refine ⟨⟨T, Tq, T', Tq', V, V', Y, Y', RRx_g b4 (fun _ _ => rfl) rfl rfl rfl rfl rfl rfl (fun i r k q hk => ?_) a1, b1, ⟨b2, b3⟩, Rw2_k b4 rfl rfl a5 a6 a4, ⟨Nat.lt_of_lt_of_le a5 b4.1, Nat.lt_of_lt_of_le a6 b4.1⟩, ⟨ny _ a5 a7, ny _ a6 a7'⟩, fun i r q => ?_, by omega⟩, b4, b6⟩
  · obtain ⟨-, e⟩ := a8 i r q
    refine (b8 0 _ (e k hk).1 (fun z => (e k hk).2 ?_)).1
    simp only [List.mem_cons, List.not_mem_nil, or_false] at z ⊢
    rcases z with z | z | z | z
    · exact Or.inl z
    · exact Or.inr (Or.inl z)
    · exact Or.inr (Or.inr (Or.inl z))
    · exact Or.inr (Or.inr (Or.inr (Or.inl z)))
  · obtain ⟨e0, e⟩ := a8 i r q
    refine ⟨Nat.lt_of_lt_of_le e0 b4.1, fun k hk => ⟨Nat.lt_of_lt_of_le (e k hk).1 b4.1, fun z => ?_⟩⟩
    have n1 := ny _ (e k hk).1 (fun z => (e k hk).2 (by
      simp only [List.mem_cons, List.not_mem_nil, or_false] at z ⊢
      rcases z with z | z | z | z
      · exact Or.inl z
      · exact Or.inr (Or.inl z)
      · exact Or.inr (Or.inr (Or.inl z))
      · exact Or.inr (Or.inr (Or.inr (Or.inl z)))))
    have n2 := (e k hk).2
    simp only [List.mem_cons, List.not_mem_nil, or_false] at z n1 n2
    rcases z with z | z | z | z | z | z
    · exact n1 (Or.inl z)
    · exact n1 (Or.inr (Or.inl z))
    · exact n1 (Or.inr (Or.inr (Or.inl z)))
    · exact n1 (Or.inr (Or.inr (Or.inr z)))
    · exact n2 (Or.inr (Or.inr (Or.inr (Or.inr (Or.inl z)))))
    · exact n2 (Or.inr (Or.inr (Or.inr (Or.inr (Or.inr z)))))
/-- behind messages -/
theorem RW8_m (hs : s ≤ s') (k6 : Kp [0, 1, 2, 3, 4, 5, 6, 7, 8, 9, 10, 11] c6 c6') (h : RW8 p c4 c6 c9 c11 c12 c13 d s P Pq P' Pq' Z Z' Y Y') (h9 : Rw2 c9' d (p 14) Y Y' ∨ Rw2 c9' d (p 14) Y' Y) (h13 : Ot2 Y Y' c13 c13') : RWS p c4 c6' c9' c11 c12 c13' d s' := by
  obtain ⟨a1, a2, ⟨a3, a3'⟩, a4, ⟨a5, a6⟩, ⟨a7, a7'⟩, a8, a9⟩ := h
  have na : ∀ a, a ∈ [P, Pq, P', Pq'] → a ≠ Y ∧ a ≠ Y' := fun a z => ⟨fun y => a7 (by rw [← y]; exact z), fun y => a7' (by rw [← y]; exact z)⟩
  have r1 : RRx c4 c11 c12 c13' d (p 0) (p 1) := RRx_g (adm_rf d) (fun _ _ => rfl) rfl rfl rfl rfl rfl rfl (fun i r k q hk => by
    obtain ⟨-, e⟩ := a8 i r q
    have n2 := (e k hk).2
    simp only [List.mem_cons, List.not_mem_nil, or_false] at n2
    exact (h13 0 _ (fun z => n2 (Or.inr (Or.inr (Or.inr (Or.inr (Or.inl z)))))) (fun z => n2 (Or.inr (Or.inr (Or.inr (Or.inr (Or.inr z))))))).2.2.2.1) a1
  have z1 : (∀ s, s < Z → cB c13' 0 P s = 0) ∧ (∀ s, s < Z' → cB c13' 0 P' s = 0) := by
    rw [(h13 0 P (na P (by simp)).1 (na P (by simp)).2).2.2.2.2.1, (h13 0 P' (na P' (by simp)).1 (na P' (by simp)).2).2.2.2.2.1]
    exact ⟨a3, a3'⟩
  have r2 := Rows_k (adm_rf d) k6 a2
  rcases h9 with h9 | h9
  · exact ⟨P, Pq, P', Pq', Z, Z', Y, Y', r1, r2, z1, h9, ⟨a5, a6⟩, ⟨a7, a7'⟩, a8, by omega⟩
  · refine ⟨P, Pq, P', Pq', Z, Z', Y', Y, r1, r2, z1, h9, ⟨a6, a5⟩, ⟨a7', a7⟩, fun i r q => ?_, by omega⟩
    obtain ⟨e0, e⟩ := a8 i r q
    refine ⟨e0, fun k hk => ⟨(e k hk).1, fun z => (e k hk).2 ?_⟩⟩
    simp only [List.mem_cons, List.not_mem_nil, or_false] at z ⊢
    rcases z with z | z | z | z | z | z
    · exact Or.inl z
    · exact Or.inr (Or.inl z)
    · exact Or.inr (Or.inr (Or.inl z))
    · exact Or.inr (Or.inr (Or.inr (Or.inl z)))
    · exact Or.inr (Or.inr (Or.inr (Or.inr (Or.inr z))))
    · exact Or.inr (Or.inr (Or.inr (Or.inr (Or.inl z))))
end Piece
