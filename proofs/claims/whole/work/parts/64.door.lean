/-! ===== die and open: the class's state stays the row's ===== -/
section Door
variable {c1 c8 c' : Cl} {st : Nat} {S T : Nat → Int32} {R D H Q M L E : Nat} {K : Nat → Nat}
theorem die_ok {h : Nat} (hh : h < H) (hS : SR c1 c8 st S R D H Q M L E K) : Rn (F_90 c1 c8 st (nI h)) (fun r => Oth st c8 r ∧ cR r 0 st = cR c8 0 st ∧ SR c1 r st (upd S (40 + 6 * h + 5) (S 4 + S 7)) R D H Q M L E K) := by
  obtain ⟨⟨hn, hs0, hs, hm, hl, hd, he, hz, hf⟩, -, hp⟩ := id hS
  have r6 := hn.1.2.2
  have d10 := hn.2.1.2.2
  have h6 := hn.2.2.1.2.2
  have q6 := hn.2.2.2.1.2.2
  obtain ⟨n13, n14, n15⟩ := hn.2.2.2.2
  have hL := hz.1.2.1
  obtain ⟨⟨x, hx, -⟩, -⟩ := hz.2.1 h hh
  have sm : S 4 + S 7 = nI (M + L) := by rw [n14, hz.1.2.2 (by omega), nI_add]
  unfold F_90
  rw [n13, hz.1.1, nI_add, sm]
  refine rn_st (by omega) (by decide) ?_
  have uu : ∀ {j}, j ≠ 40 + 6 * h + 5 → upd S (40 + 6 * h + 5) (nI (M + L)) j = S j := fun q => pk_un q
  have hA : SA c1 (sA c8 7 st (upd (cA c8 7 st) h (nI (M + L)))) st (upd S (40 + 6 * h + 5) (nI (M + L))) R D H Q M L E K := by
    refine ⟨SnR_c rfl rfl (fun j a => uu (by omega)) hn, fun i q => ?_, SsR_c q6 rfl (fun j a b => uu (by omega)) hs, SmR_c r6 rfl (fun j a b => uu (by omega)) hm, SlR_c d10 (by rw [cA_ne (by decide)]) (fun j a b => uu (by omega)) hl, SdR_c d10 rfl rfl (fun j a b => uu (by omega)) hd, ?_, ?_, SfR_c h6 r6 rfl (fun j a b => uu (by omega)) (fun i _ => uu (by omega)) (fun i _ => uu (by omega)) hf⟩
    · obtain ⟨a0, a1, a2, a3, a4, a5⟩ := hs0 i q
      rw [uu (show 40 + 6 * i + 0 ≠ _ by omega), uu (show 40 + 6 * i + 1 ≠ _ by omega), uu (show 40 + 6 * i + 2 ≠ _ by omega), uu (show 40 + 6 * i + 3 ≠ _ by omega), uu (show 40 + 6 * i + 4 ≠ _ by omega)]
      simp only [cI_sI, cI_sJ, cI_sR, cI_sA, cI_sB, cI_sQ, cR_sI, cR_sJ, cR_sR, cR_sA, cR_sB, cR_sQ, cA_sI, cA_sJ, cA_sR, cA_sA, cA_sB, cA_sQ, Nat.reduceEqDiff, false_and, and_false, and_true, true_and, if_false, if_true, and_self, ↓reduceIte]
      refine ⟨a0, a1, a2, a3, a4, ?_⟩
      by_cases w : i = h
      · subst w
        rw [pk_us, pk_us]
        exact Or.inr ⟨M + L, by omega, rfl, rfl⟩
      · rw [pk_un w, uu (by omega)]; exact a5
    · obtain ⟨g1, g2, g3, g4⟩ := he
      refine ⟨g1, g2, fun j q => ?_, fun f => ?_⟩
      · unfold EcB; simp only [cI_sI, cI_sJ, cI_sR, cI_sA, cI_sB, cI_sQ, cR_sI, cR_sJ, cR_sR, cR_sA, cR_sB, cR_sQ, cA_sI, cA_sJ, cA_sR, cA_sA, cA_sB, cA_sQ, Nat.reduceEqDiff, false_and, and_false, and_true, true_and, if_false, if_true, and_self, ↓reduceIte]; exact g3 j q
      · refine Eq.trans (su_congr fun e q => ?_) ((g4 f).trans (su_congr fun j q => ?_))
        · unfold ef
          rw [uu (by omega), uu (by omega), uu (by omega), uu (by omega)]
        · unfold cf
          simp only [cI_sI, cI_sJ, cI_sR, cI_sA, cI_sB, cI_sQ, cR_sI, cR_sJ, cR_sR, cR_sA, cR_sB, cR_sQ, cA_sI, cA_sJ, cA_sR, cA_sA, cA_sB, cA_sQ, Nat.reduceEqDiff, false_and, and_false, and_true, true_and, if_false, if_true, and_self, ↓reduceIte]
    · obtain ⟨z1, z4, z5, z6, z7⟩ := hz
      refine ⟨by rw [uu (by omega)]; exact z1, fun i q => ?_, fun r q => by rw [uu (by omega)]; exact z5 r q, fun s q => by rw [uu (by omega)]; exact z6 s q, ?_⟩
      · rw [uu (show 40 + 6 * i + 0 ≠ _ by omega), uu (show 40 + 6 * i + 1 ≠ _ by omega), uu (show 40 + 6 * i + 2 ≠ _ by omega), uu (show 40 + 6 * i + 3 ≠ _ by omega)]
        exact z4 i q
      · rw [uu (by omega), z7]
        exact su_congr fun i q => by unfold gn1; rw [uu (by omega)]
  obtain ⟨g, g1, g2⟩ := count_ok hA
  refine rn_e g1 (rn_r ⟨oth_tr oth_A oth_A, rfl, SA_k (kp_A (by decide)) (fun j _ => rfl) hA, fun r q => ?_, fun t r a b q => ?_⟩)
  · rw [cA_same]; exact g2 r (by omega)
  · rw [cA_ne (by decide), cA_ne (by decide), uu (by omega)]
    exact hp t r a b q
theorem SlR_n (d10 : D ≤ 10) (r6 : R ≤ 6) {g : Nat → Int32} (hg : ∀ r, r < 6 → g r = bs S (nI r) D) : SlR (sA c8 12 st g) st S R D := fun r q => by rw [cA_same]; exact hg r (by omega)
theorem open_ok {i : Nat} (hi : i < D) (hS : SR c1 c8 st S R D H Q M L E K) : Rn (F_89 c1 c8 st (nI i)) (fun r => Oth st c8 r ∧ cR r 0 st = cR c8 0 st ∧ SR c1 r st (upd S (10 + 3 * i + 2) (if S (10 + 3 * i + 2) = 0 then 1 else 0)) R D H Q M L E K) := by
  obtain ⟨⟨hn, hs0, hs, hm, hl, hd, he, hz, hf⟩, hc, hp⟩ := id hS
  have r6 := hn.1.2.2
  have d10 := hn.2.1.2.2
  have h6 := hn.2.2.1.2.2
  have q6 := hn.2.2.2.1.2.2
  unfold F_89
  obtain ⟨v, hv⟩ : ∃ v, v = (if S (10 + 3 * i + 2) = 0 then (1 : Int32) else 0) := ⟨_, rfl⟩
  rw [← hv]
  obtain ⟨y, hy⟩ : ∃ y, y = (cI c8 2 st) ^^^ ((1 : Int32) <<< (nI i &&& 31)) := ⟨_, rfl⟩
  rw [← hy]
  refine rn_s ?_
  have uu : ∀ {j}, j ≠ 10 + 3 * i + 2 → upd S (10 + 3 * i + 2) v j = S j := fun q => pk_un q
  have hn' : SnR c1 (sI c8 2 st y) st (upd S (10 + 3 * i + 2) v) R D H Q M := SnR_c rfl (by rw [cI_sI, if_neg (fun z => by omega)]) (fun j a => uu (by omega)) hn
  have hd' : SdR c1 (sI c8 2 st y) st (upd S (10 + 3 * i + 2) v) R D := fun j q => by
    obtain ⟨a0, a1, a2, a3⟩ := hd j q
    rw [uu (show 10 + 3 * j ≠ _ by omega), uu (show 10 + 3 * j + 1 ≠ _ by omega), cI_same]
    refine ⟨a0, a1, ?_, a3⟩
    rw [hy, bit1_xor (by omega) (by omega)]
    by_cases w : j = i
    · subst w
      rw [if_pos rfl, pk_us, hv, a2]
    · rw [if_neg w, uu (by omega)]; exact a2
  obtain ⟨g, g1, g2⟩ := f_86 hn' hd'
  have hc0 : cnt (upd S (10 + 3 * i + 2) v) H = cnt S H := by
    funext r
    unfold cnt
    refine suf_congr (su_congr fun j q => ?_) fun j q => ?_
    · unfold hd1 ctd
      rw [uu (by omega), uu (by omega), uu (by omega), uu (by omega)]
    · unfold ec1
      rw [uu (by omega), uu (by omega), uu (by omega), uu (by omega)]
  refine rn_e g1 (rn_r ⟨oth_tr oth_I oth_A, rfl, ⟨SnR_c rfl rfl (fun j a => rfl) hn', ShR_c h6 rfl (fun k a b => by rw [cA_ne (by omega), cA_sI]) (fun j a b => uu (by omega)) hs0, SsR_c q6 rfl (fun j a b => uu (by omega)) hs, SmR_c r6 rfl (fun j a b => uu (by omega)) hm, SlR_n d10 r6 g2, SdR_c d10 rfl rfl (fun j a b => rfl) hd', ?_, SzR_c h6 r6 q6 rfl (uu (by omega)) (fun j a b => uu (by omega)) (uu (by omega)) hz, SfR_c h6 r6 rfl (fun j a b => uu (by omega)) (fun i _ => uu (by omega)) (fun i _ => uu (by omega)) hf⟩, fun r q => ?_, fun t r a b q => ?_⟩)
  · obtain ⟨g1, g2, g3, g4⟩ := he
    refine ⟨by rw [cI_sA, cI_sI, if_neg (fun z => by omega)]; exact g1, g2, fun j q => ?_, fun f => ?_⟩
    · unfold EcB; simp only [cI_sI, cI_sJ, cI_sR, cI_sA, cI_sB, cI_sQ, cR_sI, cR_sJ, cR_sR, cR_sA, cR_sB, cR_sQ, cA_sI, cA_sJ, cA_sR, cA_sA, cA_sB, cA_sQ, Nat.reduceEqDiff, false_and, and_false, and_true, true_and, if_false, if_true, and_self, ↓reduceIte]; exact g3 j q
    · refine Eq.trans (su_congr fun e q => ?_) ((g4 f).trans (su_congr fun j q => ?_))
      · unfold ef
        rw [uu (by omega), uu (by omega), uu (by omega), uu (by omega)]
      · unfold cf
        simp only [cI_sI, cI_sJ, cI_sR, cI_sA, cI_sB, cI_sQ, cR_sI, cR_sJ, cR_sR, cR_sA, cR_sB, cR_sQ, cA_sI, cA_sJ, cA_sR, cA_sA, cA_sB, cA_sQ, Nat.reduceEqDiff, false_and, and_false, and_true, true_and, if_false, if_true, and_self, ↓reduceIte]
  · rw [cA_ne (by decide), cA_sI, hc0]; exact hc r q
  · rw [cA_ne (by decide), cA_sI, uu (by omega)]
    exact hp t r a b q
/-- who can go where: both alike -/
def cg (S : Nat → Int32) (H D h : Nat) (r : Nat) : Int32 := if lv S h = 0 then 0 else if bit1 (bs S (S (40 + 6 * h + 0)) D) (nI r) = 0 then 0 else if S (82 + r) < cnt S H (nI r) + S (40 + 6 * h + 1) then 0 else 1
theorem cg_01 (S : Nat → Int32) (H D h r : Nat) : cg S H D h r = 0 ∨ cg S H D h r = 1 := by
  unfold cg
  split
  · exact Or.inl rfl
  · split
    · exact Or.inl rfl
    · split
      · exact Or.inl rfl
      · exact Or.inr rfl
theorem f_91 {h r : Nat} (hh : h < H) (hr : r < R) (hS : SR c1 c8 st S R D H Q M L E K) : F_91 c1 c8 st (nI h) (nI r) = some (cg S H D h r) := by
  obtain ⟨⟨hn, hs0, hs, hm, hl, hd, he, hz, hf⟩, hc, hp⟩ := id hS
  have r6 := hn.1.2.2
  have h6 := hn.2.2.1.2.2
  obtain ⟨a0, a1, a2, a3, a4, a5⟩ := hs0 h hh
  obtain ⟨⟨x, hx, ex⟩, -⟩ := hz.2.1 h hh
  unfold F_91
  refine ob_mk (ald_ok (by omega) (by decide)) ?_
  have lz : (lv S h = 0 ∧ ¬ cA c8 7 st h = 1000000) ∨ (¬ lv S h = 0 ∧ cA c8 7 st h = 1000000) := by
    unfold lv
    rcases a5 with ⟨b1, b2⟩ | ⟨t, ht, b1, b2⟩
    · right; rw [b1, b2, if_neg (by decide)]; exact ⟨by decide, rfl⟩
    · left
      rw [b1, b2, if_pos (nI_pos' (by omega))]
      exact ⟨rfl, fun q => by have := (nI_eq (a := t) (b := 1000000) (by omega) (by decide)).mp q; omega⟩
  rcases lz with ⟨l1, l2⟩ | ⟨l1, l2⟩
  · rw [show cg S H D h r = 0 by unfold cg; rw [if_pos l1]]; exact ob_mk (in_neg l2 rfl) rfl
  · have e7 : ald (cA c8 4 st) 6 (nI h) = some (nI x) := (ald_ok (by omega) (by decide)).trans (by rw [a0, ex])
    have e8 : ald (cA c8 12 st) 6 (nI x) = some (bs S (S (40 + 6 * h + 0)) D) := (ald_ok (by omega) (by decide)).trans (by rw [hl x hx, ex])
    by_cases w : ((bs S (S (40 + 6 * h + 0)) D >>> (nI r &&& 31)) &&& 1) = 1
    · have w1 : ¬ bit1 (bs S (S (40 + 6 * h + 0)) D) (nI r) = 0 := by unfold bit1; rw [if_pos w]; decide
      have e9 : ald (cA c8 11 st) 6 (nI r) = some (cnt S H (nI r)) := (ald_ok (by omega) (by decide)).trans (by rw [hc r hr])
      have e11 : ald (cA c1 8 (cR c8 0 st)) 6 (nI h) = some (S (40 + 6 * h + 1)) := (ald_ok (by omega) (by decide)).trans (by rw [a1])
      have e12 : ald (cA c1 10 (cR c8 0 st)) 6 (nI r) = some (S (82 + r)) := (ald_ok (by omega) (by decide)).trans (by rw [hm r hr])
      by_cases u : S (82 + r) < cnt S H (nI r) + S (40 + 6 * h + 1)
      · rw [show cg S H D h r = 0 by unfold cg; rw [if_neg l1, if_neg w1, if_pos u]]; exact ob_mk (in_pos l2 (ob_mk e7 (ob_mk e8 (in_pos w (ob_mk e9 (ob_mk e11 (ob_mk e12 (in_pos u rfl)))))))) rfl
      · rw [show cg S H D h r = 1 by unfold cg; rw [if_neg l1, if_neg w1, if_neg u]]; exact ob_mk (in_pos l2 (ob_mk e7 (ob_mk e8 (in_pos w (ob_mk e9 (ob_mk e11 (ob_mk e12 (in_neg u rfl)))))))) rfl
    · rw [show cg S H D h r = 0 by unfold cg; rw [if_neg l1, if_pos (by unfold bit1; rw [if_neg w])]]
      exact ob_mk (in_pos l2 (ob_mk e7 (ob_mk e8 (in_neg w rfl)))) rfl
theorem f_241 {c12 : Cl} {B2 h r : Nat} (hh : h < 6) (hr : r < 6) (hH : cA c12 20 B2 2 = nI H) (h6 : H ≤ 6) (hD : cA c12 20 B2 1 = nI D) (d10 : D ≤ 10) : F_241 c12 B2 (nI h) (nI r) = some (cg (cA c12 20 B2) H D h r) := by
  unfold F_241
  refine ob_mk (f_224 hh) ?_
  by_cases l : lv (cA c12 20 B2) h = 0
  · rw [show cg (cA c12 20 B2) H D h r = 0 by unfold cg; rw [if_pos l]]; exact ob_mk (in_pos l rfl) rfl
  · have i82 : (82 : Int32) + nI r = nI (82 + r) := nI_add 82 r
    by_cases w : bit1 (bs (cA c12 20 B2) (cA c12 20 B2 (40 + 6 * h + 0)) D) (nI r) = 0
    · rw [show cg (cA c12 20 B2) H D h r = 0 by unfold cg; rw [if_neg l, if_pos w]]
      exact ob_mk (in_neg l (ob_mk (f_223 (w := 0) hh (by decide)) (ob_mk (f_232 hD d10) (ob_mk (f_171 _ _) (in_pos w rfl))))) rfl
    · rw [i82]
      by_cases u : cA c12 20 B2 (82 + r) < cnt (cA c12 20 B2) H (nI r) + cA c12 20 B2 (40 + 6 * h + 1)
      · rw [show cg (cA c12 20 B2) H D h r = 0 by unfold cg; rw [if_neg l, if_neg w, if_pos u]]
        exact ob_mk (in_neg l (ob_mk (f_223 (w := 0) hh (by decide)) (ob_mk (f_232 hD d10) (ob_mk (f_171 _ _) (in_neg w (ob_mk (f_226 hH h6) (ob_mk (f_223 (w := 1) hh (by decide)) (ob_mk (ald_ok (by omega) (by decide)) (in_pos u rfl))))))))) rfl
      · rw [show cg (cA c12 20 B2) H D h r = 1 by unfold cg; rw [if_neg l, if_neg w, if_neg u]]
        exact ob_mk (in_neg l (ob_mk (f_223 (w := 0) hh (by decide)) (ob_mk (f_232 hD d10) (ob_mk (f_171 _ _) (in_neg w (ob_mk (f_226 hH h6) (ob_mk (f_223 (w := 1) hh (by decide)) (ob_mk (ald_ok (by omega) (by decide)) (in_neg u rfl))))))))) rfl
end Door
