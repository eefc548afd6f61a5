/-! ===== the whole relation of a state and a row ===== -/
/-- what echoes give, of the reference and of the class -/
def ef (S : Nat → Int32) (f : Int32 → Int32 → Int32 → Int32) (e : Nat) : Int32 := if S (94 + 3 * e + 2) ≤ S 4 then 0 else f (S (94 + 3 * e)) (S (94 + 3 * e + 1)) (S (94 + 3 * e + 2))
def cf (c8 : Cl) (st : Nat) (f : Int32 → Int32 → Int32 → Int32) (j : Nat) : Int32 := f (cA c8 8 st j) (cA c8 9 st j) (cA c8 10 st j)
/-- an echo of the class: its room and its halves -/
def EcB (c8 : Cl) (st R j : Nat) : Prop := (∃ x, x < R ∧ cA c8 8 st j = nI x) ∧ (∃ y, y ≤ 4 ∧ cA c8 9 st j = nI y)
def SeR (c8 : Cl) (st : Nat) (S : Nat → Int32) (R E : Nat) : Prop := cI c8 3 st = nI E ∧ E ≤ 6 ∧ (∀ j, j < E → EcB c8 st R j) ∧ (∀ f, su (ef S f) 6 = su (cf c8 st f) E)
/-- between what the numbers lie -/
def SzR (c1 c8 : Cl) (st : Nat) (S : Nat → Int32) (R H Q L : Nat) : Prop := (cI c1 4 (cR c8 0 st) = nI L ∧ L ≤ 9 ∧ (0 < R → S 7 = nI L)) ∧ (∀ h, h < H → (∃ x, x < R ∧ S (40 + 6 * h + 0) = nI x) ∧ (∃ y, 1 ≤ y ∧ y ≤ 4 ∧ S (40 + 6 * h + 1) = nI y) ∧ (∃ x, x < R ∧ S (40 + 6 * h + 2) = nI x) ∧ (S (40 + 6 * h + 3) = -1 ∨ ∃ x, x < R ∧ S (40 + 6 * h + 3) = nI x)) ∧ (∀ r, r < R → ∃ m, 1 ≤ m ∧ m ≤ 99 ∧ S (82 + r) = nI m) ∧ (∀ s, s < Q → ∃ x, 1 ≤ x ∧ x < 2 ^ R ∧ S (88 + s) = nI x) ∧ S 5 = su (gn1 S) H
/-- at first, delays -/
def SfR (c1 c8 : Cl) (st : Nat) (S : Nat → Int32) (R H : Nat) (K : Nat → Nat) : Prop := (∀ r, r < R → cA c1 12 (cR c8 0 st) r = su (cf1 S (nI r)) H) ∧ (∀ r, r < R → cA c1 9 (cR c8 0 st) r = nI (K r) ∧ S (76 + r) = nI (K r) ∧ K r ≤ 5)
def SpR (c8 : Cl) (st : Nat) (S : Nat → Int32) (R M : Nat) : Prop := ∀ t r, t ≤ M → M < t + 10 → r < R → cA c8 13 st (t % 10 * 6 + r) = S (112 + 6 * (t % 12) + r) ∧ ∃ v, v ≤ 100 ∧ S (112 + 6 * (t % 12) + r) = nI v
/-- all but counts that are kept -/
def SA (c1 c8 : Cl) (st : Nat) (S : Nat → Int32) (R D H Q M L E : Nat) (K : Nat → Nat) : Prop := SnR c1 c8 st S R D H Q M ∧ ShR c1 c8 st S H ∧ SsR c1 c8 st S Q ∧ SmR c1 c8 st S R ∧ SlR c8 st S R D ∧ SdR c1 c8 st S R D ∧ SeR c8 st S R E ∧ SzR c1 c8 st S R H Q L ∧ SfR c1 c8 st S R H K
def SR (c1 c8 : Cl) (st : Nat) (S : Nat → Int32) (R D H Q M L E : Nat) (K : Nat → Nat) : Prop := SA c1 c8 st S R D H Q M L E K ∧ (∀ r, r < R → cA c8 11 st r = cnt S H (nI r)) ∧ SpR c8 st S R M
theorem SR.c {c1 c8 : Cl} {st : Nat} {S : Nat → Int32} {R D H Q M L E : Nat} {K : Nat → Nat} (h : SR c1 c8 st S R D H Q M L E K) : ScR c1 c8 st S R H M K := ⟨h.2.1, fun t r a b q => (h.2.2 t r a b q).1, h.1.2.2.2.2.2.2.2.2.1, h.1.2.2.2.2.2.2.2.2.2⟩
/-- the same fields -/
def Sm8 (c8 : Cl) (st : Nat) (c8' : Cl) (st' : Nat) : Prop := cR c8' 0 st' = cR c8 0 st ∧ cI c8' 1 st' = cI c8 1 st ∧ cI c8' 2 st' = cI c8 2 st ∧ cI c8' 3 st' = cI c8 3 st ∧ (∀ k j, 4 ≤ k → k ≤ 12 → j < 6 → cA c8' k st' j = cA c8 k st j) ∧ (∀ j, j < 60 → cA c8' 13 st' j = cA c8 13 st j)
def Sm1 (c1 c1' : Cl) (ho : Nat) : Prop := (∀ k, cI c1' k ho = cI c1 k ho) ∧ (∀ k, cA c1' k ho = cA c1 k ho)
theorem Sm1.rf (c1 : Cl) (ho : Nat) : Sm1 c1 c1 ho := ⟨fun _ => rfl, fun _ => rfl⟩
theorem oth_sm {st a : Nat} {c c' : Cl} (h : Oth st c c') (n : a ≠ st) : Sm8 c a c' a := ⟨(h 0 a n).2.2.1, (h 1 a n).1, (h 2 a n).1, (h 3 a n).1, fun k j _ _ _ => by rw [(h k a n).2.2.2.1], fun j _ => by rw [(h 13 a n).2.2.2.1]⟩
theorem oth_s1 {st a : Nat} {c c' : Cl} (h : Oth st c c') (n : a ≠ st) : Sm1 c c' a := ⟨fun k => (h k a n).1, fun k => (h k a n).2.2.2.1⟩
theorem bs_congr {S T : Nat → Int32} {r : Int32} : ∀ {D : Nat}, D ≤ 10 → (∀ j, j < 40 → T j = S j) → bs T r D = bs S r D
  | 0, _, _ => rfl
  | n + 1, hD, h => by
    show bs1 T r (bs T r n) n = bs1 S r (bs S r n) n
    rw [bs_congr (by omega) h]
    unfold bs1
    rw [h _ (show 10 + 3 * n + 2 < 40 by omega), h _ (show 10 + 3 * n + 1 < 40 by omega), h _ (show 10 + 3 * n < 40 by omega)]
theorem ef_congr {S T : Nat → Int32} (h : ∀ j, j < 184 → T j = S j) (f : Int32 → Int32 → Int32 → Int32) : su (ef T f) 6 = su (ef S f) 6 := by
  refine su_congr fun e he => ?_
  unfold ef
  rw [h _ (show 94 + 3 * e + 2 < 184 by omega), h _ (show 94 + 3 * e + 1 < 184 by omega), h _ (show 94 + 3 * e < 184 by omega), h 4 (by decide)]
section SrC
variable {c1 c1' c8 c8' : Cl} {st st' : Nat} {S T : Nat → Int32} {R D H Q M L E : Nat} {K : Nat → Nat}
theorem SA_c (h8 : Sm8 c8 st c8' st') (h1 : Sm1 c1 c1' (cR c8 0 st)) (hT : ∀ j, j < 184 → T j = S j) (h : SA c1 c8 st S R D H Q M L E K) : SA c1' c8' st' T R D H Q M L E K := by
  obtain ⟨e0, e1, e2, e3, e4, e5⟩ := h8
  obtain ⟨i1, i2⟩ := h1
  obtain ⟨⟨⟨n1, n2, n3⟩, ⟨n4, n5, n6⟩, ⟨n7, n8, n9⟩, ⟨n10, n11, n12⟩, n13, n14, n15⟩, hh, hs, hm, hl, hd, ⟨g1, g2, g3, g4⟩, ⟨⟨z1, z2, z3⟩, z4, z5, z6, z7⟩, f1, f2⟩ := h
  have hT0 := fun j (q : j < 40) => hT j (by omega)
  refine ⟨⟨⟨by rw [e0, i1]; exact n1, by rw [hT 0 (by decide)]; exact n2, n3⟩, ⟨by rw [e0, i1]; exact n4, by rw [hT 1 (by decide)]; exact n5, n6⟩, ⟨by rw [e0, i1]; exact n7, by rw [hT 2 (by decide)]; exact n8, n9⟩, ⟨by rw [e0, i1]; exact n10, by rw [hT 3 (by decide)]; exact n11, n12⟩, by rw [e1]; exact n13, by rw [hT 4 (by decide)]; exact n14, n15⟩, ?_, ?_, ?_, ?_, ?_, ⟨by rw [e3]; exact g1, g2, ?_, ?_⟩, ⟨⟨by rw [e0, i1]; exact z1, z2, fun q => by rw [hT 7 (by decide)]; exact z3 q⟩, ?_, ?_, ?_, ?_⟩, ?_, ?_⟩
  · intro h q
    rw [e0, i2, i2, e4 4 h (by decide) (by decide) (by omega), e4 5 h (by decide) (by decide) (by omega), e4 6 h (by decide) (by decide) (by omega), e4 7 h (by decide) (by decide) (by omega), hT _ (show 40 + 6 * h + 0 < 184 by omega), hT _ (show 40 + 6 * h + 1 < 184 by omega), hT _ (show 40 + 6 * h + 2 < 184 by omega), hT _ (show 40 + 6 * h + 3 < 184 by omega), hT _ (show 40 + 6 * h + 4 < 184 by omega), hT _ (show 40 + 6 * h + 5 < 184 by omega)]
    exact hh h q
  · intro s q; rw [e0, i2, hT _ (show 88 + s < 184 by omega)]; exact hs s q
  · intro r q; rw [e0, i2, hT _ (show 82 + r < 184 by omega)]; exact hm r q
  · intro r q; rw [e4 12 r (by decide) (by decide) (by omega), bs_congr n6 hT0]; exact hl r q
  · intro i q
    rw [e0, i2, i2, e2, hT _ (show 10 + 3 * i < 184 by omega), hT _ (show 10 + 3 * i + 1 < 184 by omega), hT _ (show 10 + 3 * i + 2 < 184 by omega)]
    exact hd i q
  · intro j q; unfold EcB; rw [e4 8 j (by decide) (by decide) (by omega), e4 9 j (by decide) (by decide) (by omega)]; exact g3 j q
  · intro f
    rw [ef_congr hT, g4 f]
    refine su_congr fun j q => ?_
    unfold cf
    rw [e4 8 j (by decide) (by decide) (by omega), e4 9 j (by decide) (by decide) (by omega), e4 10 j (by decide) (by decide) (by omega)]
  · intro h q
    rw [hT _ (show 40 + 6 * h + 0 < 184 by omega), hT _ (show 40 + 6 * h + 1 < 184 by omega), hT _ (show 40 + 6 * h + 2 < 184 by omega), hT _ (show 40 + 6 * h + 3 < 184 by omega)]
    exact z4 h q
  · intro r q; rw [hT _ (show 82 + r < 184 by omega)]; exact z5 r q
  · intro s q; rw [hT _ (show 88 + s < 184 by omega)]; exact z6 s q
  · rw [hT 5 (by decide), z7]
    refine su_congr fun h q => ?_
    unfold gn1
    rw [hT _ (show 40 + 6 * h + 4 < 184 by omega)]
  · intro r q
    rw [e0, i2, f1 r q]
    refine su_congr fun h q => ?_
    unfold cf1
    rw [hT _ (show 40 + 6 * h + 1 < 184 by omega), hT _ (show 40 + 6 * h + 2 < 184 by omega)]
  · intro r q
    rw [e0, i2, hT _ (show 76 + r < 184 by omega)]; exact f2 r q
theorem SR_c (h8 : Sm8 c8 st c8' st') (h1 : Sm1 c1 c1' (cR c8 0 st)) (hT : ∀ j, j < 184 → T j = S j) (h : SR c1 c8 st S R D H Q M L E K) : SR c1' c8' st' T R D H Q M L E K := by
  refine ⟨SA_c h8 h1 hT h.1, ?_, ?_⟩
  · intro r q
    have r6 := h.1.1.1.2.2
    rw [h8.2.2.2.2.1 11 r (by decide) (by decide) (by omega), h.2.1 r q]
    exact cnt_congr h.1.1.2.2.1.2.2 (fun j hj => (hT j (by omega)).symm)
  · intro t r a b q
    have r6 := h.1.1.1.2.2
    have := Nat.mod_lt t (show 0 < 12 by decide)
    have := Nat.mod_lt t (show 0 < 10 by decide)
    rw [h8.2.2.2.2.2 _ (by omega), hT _ (by omega)]
    exact h.2.2 t r a b q
end SrC
