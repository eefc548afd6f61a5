/-! ===== rows made anew; ways go on by a minute: the class ===== -/
/-- below a number, all addresses but some are as they were -/
def Ofa (X : Nat) (L : List Nat) (c c' : Cl) : Prop := ∀ k a, a < X → a ∉ L → cA c' k a = cA c k a ∧ cB c' k a = cB c k a
theorem ofa_rf (X : Nat) (L : List Nat) (c : Cl) : Ofa X L c c := fun _ _ _ _ => ⟨rfl, rfl⟩
theorem ofa_o {X : Nat} {L : List Nat} {c c' : Cl} (h : Ota L c c') : Ofa X L c c' := fun k a _ n => ⟨(h k a n).2.2.2.1, (h k a n).2.2.2.2.1⟩
/-- rows moved: those of now are old ones or new -/
def RM (d : Ad) (L : List Nat) (d' : Ad) (L' : List Nat) : Prop := Adm d d' ∧ ∀ a, a ∈ L' → a ∈ L ∨ aX d ≤ a
theorem rm_rf (d : Ad) (L : List Nat) : RM d L d L := ⟨adm_rf d, fun _ h => Or.inl h⟩
theorem rm_tr {d d' d'' : Ad} {L L' L'' : List Nat} (h : RM d L d' L') (h' : RM d' L' d'' L'') : RM d L d'' L'' := ⟨adm_tr h.1 h'.1, fun a ha => (h'.2 a ha).elim (h.2 a) (fun z => Or.inr (Nat.le_trans h.1.1 z))⟩
theorem ofa_tr {d d' : Ad} {L L' : List Nat} {c c' c'' : Cl} (h : Ofa (aX d) L c c') (hm : RM d L d' L') (h' : Ofa (aX d') L' c' c'') : Ofa (aX d) L c c'' := fun k a ha n => by
  have n' : a ∉ L' := fun z => (hm.2 a z).elim n (fun w => absurd ha (Nat.not_lt.mpr w))
  have g := h' k a (Nat.lt_of_lt_of_le ha hm.1.1) n'
  have g0 := h k a ha n
  exact ⟨g.1.trans g0.1, g.2.trans g0.2⟩
theorem ofa_t {X : Nat} {L : List Nat} {c c' c'' : Cl} (h : Ofa X L c c') (h' : Ofa X L c' c'') : Ofa X L c c'' := fun k a ha n => ⟨(h' k a ha n).1.trans (h k a ha n).1, (h' k a ha n).2.trans (h k a ha n).2⟩
/-- how many cells and slots more -/
def Ms (d : Ad) (Z Z' : Nat) (d' : Ad) (Y Y' k : Nat) : Prop := aX d' ≤ aX d + k ∧ aS d' + (pot Z + pot Z') ≤ aS d + (pot Y + pot Y')
theorem ms_rf (d : Ad) (Z Z' k : Nat) : Ms d Z Z' d Z Z' k := ⟨Nat.le_add_right _ _, Nat.le_refl _⟩
theorem ms_sw {d d' : Ad} {Z Z' Y Y' k : Nat} (h : Ms d Z Z' d' Y Y' k) : Ms d Z Z' d' Y' Y k := ⟨h.1, by have := h.2; omega⟩
theorem ms_tr {d d' d'' : Ad} {Z Z' Y Y' V V' k j : Nat} (h : Ms d Z Z' d' Y Y' k) (h' : Ms d' Y Y' d'' V V' j) : Ms d Z Z' d'' V V' (k + j) := ⟨by have := h.1; have := h'.1; omega, by have := h.2; have := h'.2; omega⟩
section Adv
variable {c1 c6 c7 c8 c13 : Cl} {d : Ad} {sc sr st : Nat} {S : Nat → Int32} {R D H Q M L E : Nat} {K : Nat → Nat}
theorem adn_X (d : Ad) (t n : Nat) : aX (adn d t n) = aX d + 1 := rfl
theorem adn_S (d : Ad) (t n : Nat) : aS (adn d t n) = aS d + n := rfl
theorem adn_N (d : Ad) (t n : Nat) : aN (adn d t n) (aX d) = n := by show va_up d.2.2.2.1 (aX d) n (aX d) = n; unfold va_up; rw [if_pos rfl]
theorem nwL_ok {c : Cl} {n : Nat} (h : n ≤ 46656) : nwL c d (nI n) = some (sB c 0 (aX d) (fun _ => 0), adn d 2 n) := by
  unfold nwL
  rw [nI_clamp (by omega), if_neg (fun z => z.elim (nI_pos (by omega)) (fun w => w (by omega)))]
theorem nwI_ok {c : Cl} {n : Nat} (h : n ≤ 46656) : nwI c d (nI n) = some (sA c 0 (aX d) (fun _ => 0), adn d 1 n) := by
  unfold nwI
  rw [nI_clamp (by omega), if_neg (fun z => z.elim (nI_pos (by omega)) (fun w => w (by omega)))]
/-- both new rows -/
theorem two_ok {a : Nat} (ha : a < aX d) (n : Nat) : aN (adn (adn d 2 n) 1 n) a = aN d a := by
  rw [(adm_n (adn d 2 n) 1 n).2.1 a (Nat.lt_succ_of_lt ha), (adm_n d 2 n).2.1 a ha]
theorem f_53 {P Pq P' Pq' Z Z' l s0 : Nat} (hR : R < 7) (hl : l < 7) (hN : R ^ l ≤ 46656) (e2 : cI c6 2 sc = nI (R ^ l)) (e3 : cI c6 3 sc = nI s0) (hs : s0 < R ^ l) (hr : Rows c6 d sc P Pq P' Pq' Z Z') (hz : ∀ s, s < Z → cB c13 0 P s = 0) : Rn (F_53 c6 c13 d sc) (fun r => ∃ P2 Pq2 Z2, Rows r.1 r.2.2 sc P2 Pq2 P' Pq' Z2 Z' ∧ R ^ l ≤ Z2 ∧ AQ r.2.1 P2 Pq2 (R ^ l) Z2 (fun s => if s = s0 then 1 else 0) 1 (fun _ => s0) ∧ Kp [12, 14] c6 r.1 ∧ Oth sc c6 r.1 ∧ RM d [P, Pq, P', Pq'] r.2.2 [P2, Pq2, P', Pq'] ∧ Ms d Z Z' r.2.2 Z2 Z' 2 ∧ Ofa (aX d) [P, Pq] c13 r.2.1) := by
  obtain ⟨⟨r1, r2, r3, r4⟩, ⟨a1, a2, a3, a4⟩, ⟨z1, z2⟩, ⟨x1, x2, x3, x4⟩, y1, y2, y3, y4, y5, y6⟩ := id hr
  unfold F_53
  have fin : ∀ (c6' c' : Cl) (d' : Ad) (P2 Pq2 Z2 : Nat), Rows c6' d' sc P2 Pq2 P' Pq' Z2 Z' → R ^ l ≤ Z2 → (∀ s, s < Z2 → cB c' 0 P2 s = 0) → Kp [12, 14] c6 c6' → Oth sc c6 c6' → RM d [P, Pq, P', Pq'] d' [P2, Pq2, P', Pq'] → Ms d Z Z' d' Z2 Z' 2 → Ofa (aX d) [P, Pq] c13 c' → (∀ a, a ∈ [P2, Pq2] → a ∈ [P, Pq] ∨ aX d ≤ a) → Rn (F_307 c6' c' d' sc (cI c6' 3 sc) 1 0 >>= fun r6 => some (c6', r6.2, d')) (fun r => ∃ P2 Pq2 Z2, Rows r.1 r.2.2 sc P2 Pq2 P' Pq' Z2 Z' ∧ R ^ l ≤ Z2 ∧ AQ r.2.1 P2 Pq2 (R ^ l) Z2 (fun s => if s = s0 then 1 else 0) 1 (fun _ => s0) ∧ Kp [12, 14] c6 r.1 ∧ Oth sc c6 r.1 ∧ RM d [P, Pq, P', Pq'] r.2.2 [P2, Pq2, P', Pq'] ∧ Ms d Z Z' r.2.2 Z2 Z' 2 ∧ Ofa (aX d) [P, Pq] c13 r.2.1) := fun c6' c' d' P2 Pq2 Z2 hr' hN2 hz' hK hO hm hs' hf hnew => by
    obtain ⟨⟨r1, r2, r3, r4⟩, ⟨a1, a2, a3, a4⟩, ⟨z1, z2⟩, -, y1, -⟩ := id hr'
    rw [(hK 3 (by decide)).1, e3]
    refine rn_e (f_307 (n := 0) r1 r2 a1 a2 (by omega) (by omega) (by omega)) (rn_r ⟨P2, Pq2, Z2, hr', hN2, ⟨fun s hs1 => ?_, fun s h1 h2 => ?_, fun j hj => ?_, fun i j hi hj _ => by omega, fun s hs1 z => ⟨0, by omega, ?_⟩⟩, hK, hO, hm, hs', fun k a ha n => ?_⟩)
    · show cB (sA (sB c' 0 P2 (vp_updL (cB c' 0 P2) s0 1)) 0 Pq2 (upd (cA c' 0 Pq2) 0 (nI s0))) 0 P2 s = lN (if s = s0 then 1 else 0)
      rw [cB_sA, cB_same]
      by_cases w : s = s0
      · subst w; rw [pk_uLs, if_pos rfl]; rfl
      · rw [pk_uLn w, if_neg w]; exact hz' s (by omega)
    · show cB (sA (sB c' 0 P2 (vp_updL (cB c' 0 P2) s0 1)) 0 Pq2 (upd (cA c' 0 Pq2) 0 (nI s0))) 0 P2 s = 0
      rw [cB_sA, cB_same, pk_uLn (by omega)]; exact hz' s h2
    · have : j = 0 := by omega
      subst this
      refine ⟨?_, hs, by show (if s0 = s0 then 1 else 0) ≠ 0; rw [if_pos rfl]; decide⟩
      show cA (sA (sB c' 0 P2 (vp_updL (cB c' 0 P2) s0 1)) 0 Pq2 (upd (cA c' 0 Pq2) 0 (nI s0))) 0 Pq2 0 = nI s0
      rw [cA_same, pk_us]
    · refine Classical.byContradiction fun w => z (if_neg fun e => w e.symm)
    · have na : ∀ b, b ∈ [P2, Pq2] → a ≠ b := fun b hb e => (hnew b hb).elim (fun w => n (by rw [e]; exact w)) (fun w => absurd ha (by rw [e]; exact Nat.not_lt.mpr w))
      have n1 := na P2 (by simp)
      have n2 := na Pq2 (by simp)
      show cA (sA (sB c' 0 P2 _) 0 Pq2 _) k a = cA c13 k a ∧ cB (sA (sB c' 0 P2 _) 0 Pq2 _) k a = cB c13 k a
      rw [cA_sA, if_neg (fun z => n2 z.2), cA_sB, cB_sA, cB_sB, if_neg (fun z => n1 z.2)]
      exact hf k a ha n
  rw [r1, a1, show Int32.ofNat Z = nI Z from rfl, e2]
  by_cases w : R ^ l ≤ Z
  · exact rn_e (in_pos (nI_le w (by omega)) rfl) (fin c6 c13 d P Pq Z hr w hz (kp_rf _ _) (oth_rf _ _) (rm_rf _ _) (ms_rf _ _ _ _) (ofa_rf _ _ _) (fun a h => Or.inl h))
  · have pu := pot_up hR hl (show Z < R ^ l by omega)
    refine rn_e (in_neg (nI_ge (by omega) (by omega)) (ob_mk (nwL_ok hN) (ob_mk rfl (ob_mk (by rw [show cI (sR c6 12 sc (aX d)) 2 sc = cI c6 2 sc from rfl, e2]; exact nwI_ok hN) (ob_mk rfl rfl))))) (fin _ _ _ (aX d) (aX d + 1) (R ^ l) ⟨⟨?_, ?_, ?_, ?_⟩, ⟨?_, ?_, ?_, ?_⟩, ⟨hN, z2⟩, ⟨?_, ?_, ?_, ?_⟩, ?_, ?_, ?_, ?_, ?_, y6⟩ (Nat.le_refl _) (fun s h => ?_) (kp_tr (kp_R (by decide)) (kp_R (by decide))) (oth_tr oth_R oth_R) ⟨adm_tr (adm_n _ _ _) (adm_n _ _ _), fun a h => ?_⟩ ⟨?_, ?_⟩ (fun k a ha n => ?_) (fun a h => ?_))
    · simp only [cI_sI, cI_sJ, cI_sR, cI_sA, cI_sB, cI_sQ, cR_sI, cR_sJ, cR_sR, cR_sA, cR_sB, cR_sQ, cA_sI, cA_sJ, cA_sR, cA_sA, cA_sB, cA_sQ, Nat.reduceEqDiff, false_and, and_false, and_true, true_and, if_false, if_true, and_self, ↓reduceIte]
    · simp only [cI_sI, cI_sJ, cI_sR, cI_sA, cI_sB, cI_sQ, cR_sI, cR_sJ, cR_sR, cR_sA, cR_sB, cR_sQ, cA_sI, cA_sJ, cA_sR, cA_sA, cA_sB, cA_sQ, Nat.reduceEqDiff, false_and, and_false, and_true, true_and, if_false, if_true, and_self, ↓reduceIte, adn_X]
    · simp only [cI_sI, cI_sJ, cI_sR, cI_sA, cI_sB, cI_sQ, cR_sI, cR_sJ, cR_sR, cR_sA, cR_sB, cR_sQ, cA_sI, cA_sJ, cA_sR, cA_sA, cA_sB, cA_sQ, Nat.reduceEqDiff, false_and, and_false, and_true, true_and, if_false, if_true, and_self, ↓reduceIte]; exact r3
    · simp only [cI_sI, cI_sJ, cI_sR, cI_sA, cI_sB, cI_sQ, cR_sI, cR_sJ, cR_sR, cR_sA, cR_sB, cR_sQ, cA_sI, cA_sJ, cA_sR, cA_sA, cA_sB, cA_sQ, Nat.reduceEqDiff, false_and, and_false, and_true, true_and, if_false, if_true, and_self, ↓reduceIte]; exact r4
    · rw [(adm_n (adn d 2 (R ^ l)) 1 (R ^ l)).2.1 (aX d) (Nat.lt_succ_self _)]; exact adn_N _ _ _
    · exact adn_N (adn d 2 (R ^ l)) 1 (R ^ l)
    · rw [two_ok x3]; exact a3
    · rw [two_ok x4]; exact a4
    · show aX d < aX d + 1 + 1; omega
    · show aX d + 1 < aX d + 1 + 1; omega
    · show P' < aX d + 1 + 1; omega
    · show Pq' < aX d + 1 + 1; omega
    · omega
    · omega
    · omega
    · omega
    · omega
    · show cB (sA (sB c13 0 (aX d) (fun _ => 0)) 0 (aX d + 1) (fun _ => 0)) 0 (aX d) s = 0
      rw [cB_sA, cB_same]
    · simp only [List.mem_cons, List.not_mem_nil, or_false] at h ⊢
      omega
    · show aX d + 1 + 1 ≤ aX d + 2; omega
    · show aS d + R ^ l + R ^ l + (pot Z + pot Z') ≤ aS d + (pot (R ^ l) + pot Z'); omega
    · show cA (sA (sB c13 0 (aX d) (fun _ => 0)) 0 (aX d + 1) (fun _ => 0)) k a = cA c13 k a ∧ cB (sA (sB c13 0 (aX d) (fun _ => 0)) 0 (aX d + 1) (fun _ => 0)) k a = cB c13 k a
      rw [cA_sA, if_neg (by omega), cA_sB, cB_sA, cB_sB, if_neg (by omega)]
      exact ⟨rfl, rfl⟩
    · simp only [List.mem_cons, List.not_mem_nil, or_false] at h ⊢
      omega
theorem f_54 {P Pq P' Pq' Z Z' l : Nat} (hR : R < 7) (hl : l < 7) (hN : R ^ l ≤ 46656) (e2 : cI c6 2 sc = nI (R ^ l)) (hr : Rows c6 d sc P Pq P' Pq' Z Z') (hz : ∀ s, s < Z' → cB c13 0 P' s = 0) : Rn (F_54 c6 c13 d sc) (fun r => ∃ P2 Pq2 Z2, Rows r.1 r.2.2 sc P Pq P2 Pq2 Z Z2 ∧ R ^ l ≤ Z2 ∧ (∀ s, s < Z2 → cB r.2.1 0 P2 s = 0) ∧ Kp [13, 15] c6 r.1 ∧ Oth sc c6 r.1 ∧ RM d [P, Pq, P', Pq'] r.2.2 [P, Pq, P2, Pq2] ∧ Ms d Z Z' r.2.2 Z Z2 2 ∧ Ofa (aX d) [] c13 r.2.1) := by
  obtain ⟨⟨r1, r2, r3, r4⟩, ⟨a1, a2, a3, a4⟩, ⟨z1, z2⟩, ⟨x1, x2, x3, x4⟩, y1, y2, y3, y4, y5, y6⟩ := id hr
  unfold F_54
  rw [r3, a3, show Int32.ofNat Z' = nI Z' from rfl, e2]
  by_cases w : R ^ l ≤ Z'
  · exact rn_e (in_pos (nI_le w (by omega)) rfl) (rn_r ⟨P', Pq', Z', hr, w, hz, kp_rf _ _, oth_rf _ _, rm_rf _ _, ms_rf _ _ _ _, ofa_rf _ _ _⟩)
  · have pu := pot_up hR hl (show Z' < R ^ l by omega)
    refine rn_e (in_neg (nI_ge (by omega) (by omega)) (ob_mk (nwL_ok hN) (ob_mk rfl (ob_mk (by rw [show cI (sR c6 13 sc (aX d)) 2 sc = cI c6 2 sc from rfl, e2]; exact nwI_ok hN) (ob_mk rfl rfl))))) (rn_r ⟨aX d, aX d + 1, R ^ l, ⟨⟨?_, ?_, ?_, ?_⟩, ⟨?_, ?_, ?_, ?_⟩, ⟨z1, hN⟩, ⟨?_, ?_, ?_, ?_⟩, y1, ?_, ?_, ?_, ?_, ?_⟩, Nat.le_refl _, fun s h => ?_, kp_tr (kp_R (by decide)) (kp_R (by decide)), oth_tr oth_R oth_R, ⟨adm_tr (adm_n _ _ _) (adm_n _ _ _), fun a h => ?_⟩, ⟨?_, ?_⟩, fun k a ha n => ?_⟩)
    · simp only [cI_sI, cI_sJ, cI_sR, cI_sA, cI_sB, cI_sQ, cR_sI, cR_sJ, cR_sR, cR_sA, cR_sB, cR_sQ, cA_sI, cA_sJ, cA_sR, cA_sA, cA_sB, cA_sQ, Nat.reduceEqDiff, false_and, and_false, and_true, true_and, if_false, if_true, and_self, ↓reduceIte]; exact r1
    · simp only [cI_sI, cI_sJ, cI_sR, cI_sA, cI_sB, cI_sQ, cR_sI, cR_sJ, cR_sR, cR_sA, cR_sB, cR_sQ, cA_sI, cA_sJ, cA_sR, cA_sA, cA_sB, cA_sQ, Nat.reduceEqDiff, false_and, and_false, and_true, true_and, if_false, if_true, and_self, ↓reduceIte]; exact r2
    · simp only [cI_sI, cI_sJ, cI_sR, cI_sA, cI_sB, cI_sQ, cR_sI, cR_sJ, cR_sR, cR_sA, cR_sB, cR_sQ, cA_sI, cA_sJ, cA_sR, cA_sA, cA_sB, cA_sQ, Nat.reduceEqDiff, false_and, and_false, and_true, true_and, if_false, if_true, and_self, ↓reduceIte]
    · simp only [cI_sI, cI_sJ, cI_sR, cI_sA, cI_sB, cI_sQ, cR_sI, cR_sJ, cR_sR, cR_sA, cR_sB, cR_sQ, cA_sI, cA_sJ, cA_sR, cA_sA, cA_sB, cA_sQ, Nat.reduceEqDiff, false_and, and_false, and_true, true_and, if_false, if_true, and_self, ↓reduceIte, adn_X]
    · rw [two_ok x1]; exact a1
    · rw [two_ok x2]; exact a2
    · rw [(adm_n (adn d 2 (R ^ l)) 1 (R ^ l)).2.1 (aX d) (Nat.lt_succ_self _)]; exact adn_N _ _ _
    · exact adn_N (adn d 2 (R ^ l)) 1 (R ^ l)
    · show P < aX d + 1 + 1; omega
    · show Pq < aX d + 1 + 1; omega
    · show aX d < aX d + 1 + 1; omega
    · show aX d + 1 < aX d + 1 + 1; omega
    · omega
    · omega
    · omega
    · omega
    · omega
    · show cB (sA (sB c13 0 (aX d) (fun _ => 0)) 0 (aX d + 1) (fun _ => 0)) 0 (aX d) s = 0
      rw [cB_sA, cB_same]
    · simp only [List.mem_cons, List.not_mem_nil, or_false] at h ⊢
      omega
    · show aX d + 1 + 1 ≤ aX d + 2; omega
    · show aS d + R ^ l + R ^ l + (pot Z + pot Z') ≤ aS d + (pot Z + pot (R ^ l)); omega
    · show cA (sA (sB c13 0 (aX d) (fun _ => 0)) 0 (aX d + 1) (fun _ => 0)) k a = cA c13 k a ∧ cB (sA (sB c13 0 (aX d) (fun _ => 0)) 0 (aX d + 1) (fun _ => 0)) k a = cB c13 k a
      rw [cA_sA, if_neg (by omega), cA_sB, cB_sA, cB_sB, if_neg (by omega)]
      exact ⟨rfl, rfl⟩
/-- rows change places -/
theorem f_55 {P Pq P' Pq' Z Z' : Nat} (hr : Rows c6 d sc P Pq P' Pq' Z Z') : Rn (F_55 c6 sc) (fun r => Rows r d sc P' Pq' P Pq Z' Z ∧ Kp [12, 13, 14, 15] c6 r ∧ Oth sc c6 r) := by
  obtain ⟨⟨r1, r2, r3, r4⟩, ⟨a1, a2, a3, a4⟩, ⟨z1, z2⟩, ⟨x1, x2, x3, x4⟩, y1, y2, y3, y4, y5, y6⟩ := id hr
  unfold F_55
  refine rn_s (rn_s (rn_s (rn_s (rn_r ⟨⟨⟨?_, ?_, ?_, ?_⟩, ⟨a3, a4, a1, a2⟩, ⟨z2, z1⟩, ⟨x3, x4, x1, x2⟩, y6, Ne.symm y2, Ne.symm y4, Ne.symm y3, Ne.symm y5, y1⟩, ?_, ?_⟩))))
  · simp only [cI_sI, cI_sJ, cI_sR, cI_sA, cI_sB, cI_sQ, cR_sI, cR_sJ, cR_sR, cR_sA, cR_sB, cR_sQ, cA_sI, cA_sJ, cA_sR, cA_sA, cA_sB, cA_sQ, Nat.reduceEqDiff, false_and, and_false, and_true, true_and, if_false, if_true, and_self, ↓reduceIte]; exact r3
  · simp only [cI_sI, cI_sJ, cI_sR, cI_sA, cI_sB, cI_sQ, cR_sI, cR_sJ, cR_sR, cR_sA, cR_sB, cR_sQ, cA_sI, cA_sJ, cA_sR, cA_sA, cA_sB, cA_sQ, Nat.reduceEqDiff, false_and, and_false, and_true, true_and, if_false, if_true, and_self, ↓reduceIte]; exact r4
  · simp only [cI_sI, cI_sJ, cI_sR, cI_sA, cI_sB, cI_sQ, cR_sI, cR_sJ, cR_sR, cR_sA, cR_sB, cR_sQ, cA_sI, cA_sJ, cA_sR, cA_sA, cA_sB, cA_sQ, Nat.reduceEqDiff, false_and, and_false, and_true, true_and, if_false, if_true, and_self, ↓reduceIte]; exact r1
  · simp only [cI_sI, cI_sJ, cI_sR, cI_sA, cI_sB, cI_sQ, cR_sI, cR_sJ, cR_sR, cR_sA, cR_sB, cR_sQ, cA_sI, cA_sJ, cA_sR, cA_sA, cA_sB, cA_sQ, Nat.reduceEqDiff, false_and, and_false, and_true, true_and, if_false, if_true, and_self, ↓reduceIte]; exact r2
  · exact kp_tr (kp_R (by decide)) (kp_tr (kp_R (by decide)) (kp_tr (kp_R (by decide)) (kp_R (by decide))))
  · exact oth_tr oth_R (oth_tr oth_R (oth_tr oth_R oth_R))
/-- marks are taken away -/
theorem gl_56 {P Pq Z N n : Nat} {f u : Nat → Nat} (e12 : cR c6 12 sc = P) (e14 : cR c6 14 sc = Pq) (n1 : aN d P = Z) (n2 : aN d Pq = Z) (hN : N ≤ Z) (hZ : Z ≤ 46656) (h : AQ c13 P Pq N Z f n u) : ∀ (m i : Nat) (c' : Cl), i + m = n → Oth P c13 c' → cA c' 0 Pq = cA c13 0 Pq → (∀ s, s < Z → cB c' 0 P s = if anyb (fun j => decide (u j = s)) i = true then 0 else cB c13 0 P s) → Rn (G_56 c6 d sc 0 [nI n, nI i] [] [] c') (fun r => Oth P c13 r ∧ cA r 0 Pq = cA c13 0 Pq ∧ ∀ s, s < Z → cB r 0 P s = 0)
  | 0, i, c', hi, hO, hq, h1 => by
    have : i = n := by omega
    subst this
    have nN := aq_n h
    rw [G_56]
    refine rn_p (nI_le (Nat.le_refl _) (by omega)) (rn_r ⟨hO, hq, fun s hs => ?_⟩)
    rw [h1 s hs]
    by_cases w : anyb (fun j => decide (u j = s)) i = true
    · rw [if_pos w]
    · rw [if_neg w]
      by_cases v : s < N
      · rw [h.1 s v]
        have : f s = 0 := Classical.byContradiction fun z => by
          obtain ⟨j, hj, ej⟩ := h.2.2.2.2 s v z
          exact w (anyb_t.mpr ⟨j, hj, by simp [ej]⟩)
        rw [this]; rfl
      · exact h.2.1 s (by omega) hs
  | m + 1, i, c', hi, hO, hq, h1 => by
    have nN := aq_n h
    obtain ⟨x1, x2, x3⟩ := h.2.2.1 i (by omega)
    rw [G_56, e12, e14, n1, n2]
    refine rn_n (nI_ge (by omega) (by omega)) (rn_n (show ¬ nI Z ≤ nI i from nI_ge (by omega) (by omega)) (rn_ld (by omega) (by omega) ?_))
    rw [hq, x1]
    refine rn_sl (by omega) (by omega) ?_
    rw [nI_1]
    refine gl_56 e12 e14 n1 n2 hN hZ h m (i + 1) _ (by omega) (oth_tr hO oth_B) (by rw [cA_sB]; exact hq) (fun s hs => ?_)
    rw [cB_same]
    show _ = if (anyb (fun j => decide (u j = s)) i || decide (u i = s)) = true then 0 else cB c13 0 P s
    by_cases w : s = u i
    · subst w; rw [pk_uLs, if_pos (by simp)]
    · have : ¬ u i = s := fun z => w z.symm
      rw [pk_uLn w, h1 s hs, decide_eq_false this, Bool.or_false]
theorem f_56 {P Pq Z N n : Nat} {f u : Nat → Nat} (e12 : cR c6 12 sc = P) (e14 : cR c6 14 sc = Pq) (n1 : aN d P = Z) (n2 : aN d Pq = Z) (hN : N ≤ Z) (hZ : Z ≤ 46656) (h : AQ c13 P Pq N Z f n u) : Rn (F_56 c6 c13 d sc (nI n)) (fun r => Oth P c13 r ∧ cA r 0 Pq = cA c13 0 Pq ∧ ∀ s, s < Z → cB r 0 P s = 0) := by
  unfold F_56
  exact gl_56 e12 e14 n1 n2 hN hZ h n 0 c13 (by omega) (oth_rf _ _) rfl (fun s hs => rfl)
end Adv
