/-! ===== a minute of the class, whole ===== -/
section Comp
variable {c1 c8 c' : Cl} {st : Nat} {S T : Nat → Int32} {R D H Q M L E : Nat} {K : Nat → Nat}
theorem ShR_c (h6 : H ≤ 6) (e0 : cR c' 0 st = cR c8 0 st) (e : ∀ k, 4 ≤ k → k ≤ 7 → cA c' k st = cA c8 k st) (hT : ∀ j, 40 ≤ j → j < 76 → T j = S j) (h : ShR c1 c8 st S H) : ShR c1 c' st T H := by
  intro i q
  rw [e0, e 4 (by decide) (by decide), e 5 (by decide) (by decide), e 6 (by decide) (by decide), e 7 (by decide) (by decide), hT (40 + 6 * i + 0) (by omega) (by omega), hT (40 + 6 * i + 1) (by omega) (by omega), hT (40 + 6 * i + 2) (by omega) (by omega), hT (40 + 6 * i + 3) (by omega) (by omega), hT (40 + 6 * i + 4) (by omega) (by omega), hT (40 + 6 * i + 5) (by omega) (by omega)]
  exact h i q
theorem SsR_c (q6 : Q ≤ 6) (e0 : cR c' 0 st = cR c8 0 st) (hT : ∀ j, 76 ≤ j → j < 94 → T j = S j) (h : SsR c1 c8 st S Q) : SsR c1 c' st T Q := by
  intro s q; rw [e0, hT _ (by omega) (by omega)]; exact h s q
theorem SmR_c (r6 : R ≤ 6) (e0 : cR c' 0 st = cR c8 0 st) (hT : ∀ j, 76 ≤ j → j < 94 → T j = S j) (h : SmR c1 c8 st S R) : SmR c1 c' st T R := by
  intro r q; rw [e0, hT _ (by omega) (by omega)]; exact h r q
theorem bs_cg {r : Int32} : ∀ {D : Nat}, D ≤ 10 → (∀ j, 10 ≤ j → j < 40 → T j = S j) → bs T r D = bs S r D
  | 0, _, _ => rfl
  | n + 1, hD, h => by
    show bs1 T r (bs T r n) n = bs1 S r (bs S r n) n
    rw [bs_cg (by omega) h]
    unfold bs1
    rw [h (10 + 3 * n + 2) (by omega) (by omega), h (10 + 3 * n + 1) (by omega) (by omega), h (10 + 3 * n) (by omega) (by omega)]
theorem SlR_c (d10 : D ≤ 10) (e : cA c' 12 st = cA c8 12 st) (hT : ∀ j, 10 ≤ j → j < 40 → T j = S j) (h : SlR c8 st S R D) : SlR c' st T R D := by
  intro r q; rw [e, bs_cg d10 hT]; exact h r q
theorem SdR_c (d10 : D ≤ 10) (e0 : cR c' 0 st = cR c8 0 st) (e2 : cI c' 2 st = cI c8 2 st) (hT : ∀ j, 10 ≤ j → j < 40 → T j = S j) (h : SdR c1 c8 st S R D) : SdR c1 c' st T R D := by
  intro i q; rw [e0, e2, hT (10 + 3 * i) (by omega) (by omega), hT (10 + 3 * i + 1) (by omega) (by omega), hT (10 + 3 * i + 2) (by omega) (by omega)]; exact h i q
theorem SfR_c (h6 : H ≤ 6) (r6 : R ≤ 6) (e0 : cR c' 0 st = cR c8 0 st) (hT : ∀ j, 76 ≤ j → j < 94 → T j = S j) (hT1 : ∀ h, h < H → T (40 + 6 * h + 1) = S (40 + 6 * h + 1)) (hT2 : ∀ h, h < H → T (40 + 6 * h + 2) = S (40 + 6 * h + 2)) (h : SfR c1 c8 st S R H K) : SfR c1 c' st T R H K := by
  refine ⟨fun r q => ?_, fun r q => ?_⟩
  · rw [e0, h.1 r q]
    refine su_congr fun i z => ?_
    unfold cf1
    rw [hT1 i z, hT2 i z]
  · rw [e0, hT _ (by omega) (by omega)]; exact h.2 r q
/-- the rows of the reference behind a minute, a going -/
def mS (S : Nat → Int32) : Nat → Int32 := upd S 4 (S 4 + 1)
def gS (S : Nat → Int32) (h : Nat) (p : Int32) : Nat → Int32 := upd (upd (upd (upd S (40 + 6 * h + 3) (S (40 + 6 * h))) (40 + 6 * h) p) (40 + 6 * h + 4) (S (40 + 6 * h + 4) + 1)) 5 (S 5 + 1)
theorem mS_un {j : Nat} (h : j ≠ 4) : mS S j = S j := pk_un h
theorem gS_un {h j : Nat} {p : Int32} (q : j ≠ 5) (q0 : j ≠ 40 + 6 * h) (q3 : j ≠ 40 + 6 * h + 3) (q4 : j ≠ 40 + 6 * h + 4) : gS S h p j = S j := by
  unfold gS; rw [pk_un q, pk_un q4, pk_un q0, pk_un q3]
theorem SzR_c (h6 : H ≤ 6) (r6 : R ≤ 6) (q6 : Q ≤ 6) (e0 : cR c' 0 st = cR c8 0 st) (hT7 : T 7 = S 7) (hT : ∀ j, 40 ≤ j → j < 94 → T j = S j) (hT5 : T 5 = S 5) (h : SzR c1 c8 st S R H Q L) : SzR c1 c' st T R H Q L := by
  obtain ⟨⟨z1, z2, z3⟩, z4, z5, z6, z7⟩ := h
  refine ⟨⟨by rw [e0]; exact z1, z2, by rw [hT7]; exact z3⟩, ?_, ?_, ?_, ?_⟩
  · intro i q
    rw [hT (40 + 6 * i + 0) (by omega) (by omega), hT (40 + 6 * i + 1) (by omega) (by omega), hT (40 + 6 * i + 2) (by omega) (by omega), hT (40 + 6 * i + 3) (by omega) (by omega)]; exact z4 i q
  · intro r q; rw [hT _ (by omega) (by omega)]; exact z5 r q
  · intro s q; rw [hT _ (by omega) (by omega)]; exact z6 s q
  · rw [hT5, z7]
    refine su_congr fun i q => ?_
    unfold gn1
    rw [hT _ (by omega) (by omega)]
theorem SnR_c (e0 : cR c' 0 st = cR c8 0 st) (e1 : cI c' 1 st = cI c8 1 st) (hT : ∀ j, j < 5 → T j = S j) (h : SnR c1 c8 st S R D H Q M) : SnR c1 c' st T R D H Q M := by
  unfold SnR
  rw [e0, e1, hT 0 (by decide), hT 1 (by decide), hT 2 (by decide), hT 3 (by decide), hT 4 (by decide)]
  exact h
/-- minute and echoes that end -/
theorem drop_ok (h : SA c1 c8 st S R D H Q M L E K) (hM : M + 1 < 20000) : Rn (F_93 (sI c8 1 st (cI c8 1 st + 1)) st) (fun r => Kp [1, 3, 8, 9, 10] c8 r ∧ Oth st c8 r ∧ ∃ E', SA c1 r st (mS S) R D H Q (M + 1) L E' K) := by
  obtain ⟨⟨n1, n4, n7, n10, n13, n14, n15⟩, hh, hs, hm, hl, hd, ⟨g1, g2, g3, g4⟩, hz, hf⟩ := h
  have r6 := n1.2.2
  have d10 := n4.2.2
  have h6 := n7.2.2
  have q6 := n10.2.2
  have hm1 : cI c8 1 st + 1 = nI (M + 1) := by rw [n13, nI_1]
  rw [hm1]
  refine rn_m (f_93 (c := sI c8 1 st (nI (M + 1))) (st := st) (R := R) (E := E) (by rw [cI_sI, if_neg (fun z => by omega)]; exact g1) g2 (fun j q => g3 j q)) (fun r ⟨rK, rO, E', p1, p2, p3, p4⟩ => ?_)
  have m4 : mS S 4 = nI (M + 1) := by unfold mS; rw [pk_us, n14, nI_1]
  have e0 : cR r 0 st = cR c8 0 st := by rw [(rK 0 (by decide)).2.2.1, cR_sI]
  have e1 : cI r 1 st = nI (M + 1) := by rw [(rK 1 (by decide)).1, cI_same]
  have eA : ∀ k, k ∉ [3, 8, 9, 10] → cA r k st = cA c8 k st := fun k q => by rw [(rK k q).2.2.2.1, cA_sI]
  refine ⟨kp_tr (kp_I (by decide)) (kp_wd rK (by decide)), oth_tr oth_I rO, E', ⟨?_, ?_, ?_, ?_, e1, m4, hM⟩, ?_, ?_, ?_, ?_, ?_, ⟨p2, by omega, p3, ?_⟩, ?_, ?_⟩
  · rw [e0, mS_un (by decide)]; exact n1
  · rw [e0, mS_un (by decide)]; exact n4
  · rw [e0, mS_un (by decide)]; exact n7
  · rw [e0, mS_un (by decide)]; exact n10
  · exact ShR_c h6 e0 (fun k a b => eA k (by simp only [List.mem_cons, List.not_mem_nil, or_false]; omega)) (fun j a b => mS_un (by omega)) hh
  · exact SsR_c q6 e0 (fun j a b => mS_un (by omega)) hs
  · exact SmR_c r6 e0 (fun j a b => mS_un (by omega)) hm
  · exact SlR_c d10 (eA 12 (by decide)) (fun j a b => mS_un (by omega)) hl
  · exact SdR_c d10 e0 (by rw [(rK 2 (by decide)).1, cI_sI, if_neg (fun z => by omega)]) (fun j a b => mS_un (by omega)) hd
  · intro f
    rw [p4 f]
    have := g4 (fun a b u => if u ≤ nI (M + 1) then 0 else f a b u)
    refine Eq.trans ?_ (this.trans ?_)
    · refine su_congr fun e q => ?_
      unfold ef
      rw [m4, mS_un (by omega), mS_un (by omega), mS_un (by omega), n14]
      dsimp only
      by_cases w : S (94 + 3 * e + 2) ≤ nI (M + 1)
      · rw [if_pos w]; split <;> rfl
      · rw [if_neg w, if_neg]
        intro z
        refine w ?_
        have a1 := Int32.le_iff_toInt_le.mp z
        rw [nI_toInt (by omega)] at a1
        refine Int32.le_iff_toInt_le.mpr ?_
        rw [nI_toInt (by omega)]
        omega
    · refine su_congr fun j q => ?_
      unfold cf dr
      rw [cA_sI, cI_same]
  · exact SzR_c h6 r6 q6 e0 (mS_un (by decide)) (fun j a b => mS_un (by omega)) (mS_un (by decide)) hz
  · exact SfR_c h6 r6 e0 (fun j a b => mS_un (by omega)) (fun i q => mS_un (by omega)) (fun i q => mS_un (by omega)) hf
/-- an echo is left -/
theorem leave_ok {h : Nat} (hh : h < H) (hA : SA c1 c8 st S R D H Q M L E K) : Rn (F_94 c1 c8 st (nI h)) (fun r => Kp [3, 8, 9, 10] c8 r ∧ Oth st c8 r ∧ ∃ E', SA c1 r st (eS S (S (40 + 6 * h)) (S (40 + 6 * h + 1))) R D H Q M L E' K) := by
  obtain ⟨hn, hs0, hs, hm, hl, hd, he, hz, hf⟩ := hA
  have r6 := hn.1.2.2
  have d10 := hn.2.1.2.2
  have h6 := hn.2.2.1.2.2
  have q6 := hn.2.2.2.1.2.2
  obtain ⟨n13, n14, n15⟩ := hn.2.2.2.2
  obtain ⟨⟨x, hx, ex⟩, ⟨y, -, y4, ey⟩, -⟩ := hz.2.1 h hh
  obtain ⟨b1, b2, -⟩ := hs0 h hh
  rw [show S (40 + 6 * h) = nI x from ex, ey]
  refine rn_m (f_94 (S := S) (x := x) (y := y) (L := L) (M := M) (by omega) hx y4 hz.1.1 hz.1.2.1 n13 n15 n14 (hz.1.2.2 (by omega)) he (by rw [b1, ex]) (by rw [b2, ey])) (fun r ⟨rK, rO, E', p⟩ => ?_)
  have e0 : cR r 0 st = cR c8 0 st := by rw [(rK 0 (by decide)).2.2.1]
  have eA : ∀ k, k ∉ [3, 8, 9, 10] → cA r k st = cA c8 k st := fun k q => by rw [(rK k q).2.2.2.1]
  refine ⟨rK, rO, E', SnR_c e0 (by rw [(rK 1 (by decide)).1]) (fun j a => eS_un (by omega)) hn, ShR_c h6 e0 (fun k a b => eA k (by simp only [List.mem_cons, List.not_mem_nil, or_false]; omega)) (fun j a b => eS_un (by omega)) hs0, SsR_c q6 e0 (fun j a b => eS_un (by omega)) hs, SmR_c r6 e0 (fun j a b => eS_un (by omega)) hm, SlR_c d10 (eA 12 (by decide)) (fun j a b => eS_un (by omega)) hl, SdR_c d10 e0 (by rw [(rK 2 (by decide)).1]) (fun j a b => eS_un (by omega)) hd, p, SzR_c h6 r6 q6 e0 (eS_un (by omega)) (fun j a b => eS_un (by omega)) (eS_un (by omega)) hz, SfR_c h6 r6 e0 (fun j a b => eS_un (by omega)) (fun i q => eS_un (by omega)) (fun i q => eS_un (by omega)) hf⟩
/-- a head goes -/
theorem move_ok {h x : Nat} (hh : h < H) (hx : x < R) (hA : SA c1 c8 st S R D H Q M L E K) : SA c1 (sA (sA (sA c8 5 st (upd (cA c8 5 st) h (cA c8 4 st h))) 4 st (upd (cA c8 4 st) h (nI x))) 6 st (upd (cA c8 6 st) h (cA c8 6 st h + 1))) st (gS S h (nI x)) R D H Q M L E K := by
  obtain ⟨hn, hs0, hs, hm, hl, hd, he, hz, hf⟩ := hA
  have r6 := hn.1.2.2
  have d10 := hn.2.1.2.2
  have h6 := hn.2.2.1.2.2
  have q6 := hn.2.2.2.1.2.2
  have gu : ∀ {j}, j < 40 ∨ 76 ≤ j → j ≠ 5 → gS S h (nI x) j = S j := fun {j} a b => gS_un b (by omega) (by omega) (by omega)
  have gu1 : ∀ i, gS S h (nI x) (40 + 6 * i + 1) = S (40 + 6 * i + 1) := fun i => gS_un (by omega) (by omega) (by omega) (by omega)
  have gu2 : ∀ i, gS S h (nI x) (40 + 6 * i + 2) = S (40 + 6 * i + 2) := fun i => gS_un (by omega) (by omega) (by omega) (by omega)
  have gu5 : ∀ i, gS S h (nI x) (40 + 6 * i + 5) = S (40 + 6 * i + 5) := fun i => gS_un (by omega) (by omega) (by omega) (by omega)
  have gh0 : gS S h (nI x) (40 + 6 * h + 0) = nI x := by unfold gS; rw [pk_un (by omega), pk_un (by omega)]; exact pk_us
  have gh3 : gS S h (nI x) (40 + 6 * h + 3) = S (40 + 6 * h) := by unfold gS; rw [pk_un (by omega), pk_un (by omega), pk_un (by omega), pk_us]
  have gh4 : gS S h (nI x) (40 + 6 * h + 4) = S (40 + 6 * h + 4) + 1 := by unfold gS; rw [pk_un (by omega), pk_us]
  refine ⟨SnR_c rfl rfl (fun j a => gu (by omega) (by omega)) hn, ?_, SsR_c q6 rfl (fun j a b => gu (by omega) (by omega)) hs, SmR_c r6 rfl (fun j a b => gu (by omega) (by omega)) hm, SlR_c d10 (by rw [cA_ne (by decide), cA_ne (by decide), cA_ne (by decide)]) (fun j a b => gu (by omega) (by omega)) hl, SdR_c d10 rfl rfl (fun j a b => gu (by omega) (by omega)) hd, ?_, ?_, SfR_c h6 r6 rfl (fun j a b => gu (by omega) (by omega)) (fun i _ => gu1 i) (fun i _ => gu2 i) hf⟩
  · intro i q
    simp only [cI_sI, cI_sJ, cI_sR, cI_sA, cI_sB, cI_sQ, cR_sI, cR_sJ, cR_sR, cR_sA, cR_sB, cR_sQ, cA_sI, cA_sJ, cA_sR, cA_sA, cA_sB, cA_sQ, Nat.reduceEqDiff, false_and, and_false, and_true, true_and, if_false, if_true, and_self, ↓reduceIte]
    rw [gu1, gu2, gu5]
    by_cases w : i = h
    · subst w
      rw [gh0, gh3, gh4, pk_us, pk_us, pk_us]
      obtain ⟨a0, a1, a2, a3, a4, a5⟩ := hs0 i q
      exact ⟨rfl, a1, a2, a0, by rw [a4], a5⟩
    · rw [pk_un w, pk_un w, pk_un w, gS_un (by omega) (by omega) (by omega) (by omega), gS_un (by omega) (by omega) (by omega) (by omega), gS_un (by omega) (by omega) (by omega) (by omega)]
      exact hs0 i q
  · obtain ⟨g1, g2, g3, g4⟩ := he
    refine ⟨g1, g2, fun j q => ?_, fun f => ?_⟩
    · unfold EcB; simp only [cI_sI, cI_sJ, cI_sR, cI_sA, cI_sB, cI_sQ, cR_sI, cR_sJ, cR_sR, cR_sA, cR_sB, cR_sQ, cA_sI, cA_sJ, cA_sR, cA_sA, cA_sB, cA_sQ, Nat.reduceEqDiff, false_and, and_false, and_true, true_and, if_false, if_true, and_self, ↓reduceIte]; exact g3 j q
    · refine Eq.trans (su_congr fun e q => ?_) ((g4 f).trans (su_congr fun j q => ?_))
      · unfold ef
        rw [gu (by omega) (by omega), gu (by omega) (by omega), gu (by omega) (by omega), gu (by omega) (by omega)]
      · unfold cf
        simp only [cI_sI, cI_sJ, cI_sR, cI_sA, cI_sB, cI_sQ, cR_sI, cR_sJ, cR_sR, cR_sA, cR_sB, cR_sQ, cA_sI, cA_sJ, cA_sR, cA_sA, cA_sB, cA_sQ, Nat.reduceEqDiff, false_and, and_false, and_true, true_and, if_false, if_true, and_self, ↓reduceIte]
  · obtain ⟨z1, z4, z5, z6, z7⟩ := hz
    refine ⟨by rw [gu (by omega) (by omega)]; exact z1, fun i q => ?_, fun r q => by rw [gu (by omega) (by omega)]; exact z5 r q, fun s q => by rw [gu (by omega) (by omega)]; exact z6 s q, ?_⟩
    · rw [gu1, gu2]
      obtain ⟨a0, a1, a2, a3⟩ := z4 i q
      by_cases w : i = h
      · subst w
        rw [gh0, gh3]
        exact ⟨⟨x, hx, rfl⟩, a1, a2, Or.inr a0⟩
      · rw [gS_un (by omega) (by omega) (by omega) (by omega), gS_un (by omega) (by omega) (by omega) (by omega)]
        exact ⟨a0, a1, a2, a3⟩
    · have e5 : gS S h (nI x) 5 = S 5 + 1 := by unfold gS; rw [pk_us]
      rw [e5, z7]
      refine (su_ch (e := h) (fun j q => ?_) ?_ hh).symm
      · unfold gn1; rw [gS_un (by omega) (by omega) (by omega) (by omega)]
      · unfold gn1; exact gh4
end Comp
