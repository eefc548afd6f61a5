/-! ===== house: the call, both alike ===== -/
theorem adm_f (d : Ad) (a : Nat) (fs : List Value) : Adm d (adf d a fs) := ⟨Nat.le_refl _, fun _ _ => rfl, rfl, rfl⟩
theorem adm_z (d : Ad) (t n : Nat) : Adm d (adz d t n) := ⟨Nat.le_succ _, fun a ha => by rw [adz_n, if_neg (Nat.ne_of_lt ha)], rfl, rfl⟩
theorem adm_r (d : Ad) (c : Nat) : Adm d (adr d c) := ⟨Nat.le_succ _, fun _ _ => rfl, rfl, rfl⟩
theorem adm_o (d : Ad) (c a X : Nat) (l : List (Option Nat)) : Adm d (own d c a X l) := ⟨Nat.le_refl _, fun _ _ => rfl, rfl, rfl⟩
theorem adm_1 (d : Ad) (a : Nat) : Adm d (nD_1 d a) := by
  unfold nD_1
  refine adm_tr ?_ (adm_o _ _ _ _ _)
  refine adm_tr ?_ (adm_f _ _ _)
  refine adm_tr ?_ (adm_z _ _ _)
  refine adm_tr ?_ (adm_f _ _ _)
  refine adm_tr ?_ (adm_z _ _ _)
  refine adm_tr ?_ (adm_f _ _ _)
  refine adm_tr ?_ (adm_z _ _ _)
  refine adm_tr ?_ (adm_f _ _ _)
  refine adm_tr ?_ (adm_z _ _ _)
  refine adm_tr ?_ (adm_f _ _ _)
  refine adm_tr ?_ (adm_z _ _ _)
  refine adm_tr ?_ (adm_f _ _ _)
  refine adm_tr ?_ (adm_z _ _ _)
  refine adm_tr ?_ (adm_f _ _ _)
  refine adm_tr ?_ (adm_z _ _ _)
  refine adm_tr ?_ (adm_f _ _ _)
  refine adm_tr ?_ (adm_z _ _ _)
  exact adm_f _ _ _
theorem h9_ok (c1 : Cl) (ho : Nat) : Hf (nC_1 c1 ho) ho ∧ Oth ho c1 (nC_1 c1 ho) := by
  have zI : ∀ k b, cI (zat c1 ho) k b = if b = ho then 0 else cI c1 k b := fun _ _ => rfl
  have zA : ∀ k b, cA (zat c1 ho) k b = if b = ho then fun _ => 0 else cA c1 k b := fun _ _ => rfl
  unfold nC_1
  refine ⟨⟨⟨?_, ?_, ?_, ?_, ?_⟩, fun r hr => ⟨?_, ?_, ?_⟩⟩, ?_⟩
  · simp only [cI_sI, cI_sJ, cI_sR, cI_sA, cI_sB, cI_sQ, cR_sI, cR_sJ, cR_sR, cR_sA, cR_sB, cR_sQ, cA_sI, cA_sJ, cA_sR, cA_sA, cA_sB, cA_sQ, Nat.reduceEqDiff, false_and, and_false, and_true, true_and, if_false, if_true, and_self, ↓reduceIte]; rw [zI, if_pos rfl]
  · simp only [cI_sI, cI_sJ, cI_sR, cI_sA, cI_sB, cI_sQ, cR_sI, cR_sJ, cR_sR, cR_sA, cR_sB, cR_sQ, cA_sI, cA_sJ, cA_sR, cA_sA, cA_sB, cA_sQ, Nat.reduceEqDiff, false_and, and_false, and_true, true_and, if_false, if_true, and_self, ↓reduceIte]; rw [zI, if_pos rfl]
  · simp only [cI_sI, cI_sJ, cI_sR, cI_sA, cI_sB, cI_sQ, cR_sI, cR_sJ, cR_sR, cR_sA, cR_sB, cR_sQ, cA_sI, cA_sJ, cA_sR, cA_sA, cA_sB, cA_sQ, Nat.reduceEqDiff, false_and, and_false, and_true, true_and, if_false, if_true, and_self, ↓reduceIte]; rw [zI, if_pos rfl]
  · simp only [cI_sI, cI_sJ, cI_sR, cI_sA, cI_sB, cI_sQ, cR_sI, cR_sJ, cR_sR, cR_sA, cR_sB, cR_sQ, cA_sI, cA_sJ, cA_sR, cA_sA, cA_sB, cA_sQ, Nat.reduceEqDiff, false_and, and_false, and_true, true_and, if_false, if_true, and_self, ↓reduceIte]; rw [zI, if_pos rfl]
  · simp only [cI_sI, cI_sJ, cI_sR, cI_sA, cI_sB, cI_sQ, cR_sI, cR_sJ, cR_sR, cR_sA, cR_sB, cR_sQ, cA_sI, cA_sJ, cA_sR, cA_sA, cA_sB, cA_sQ, Nat.reduceEqDiff, false_and, and_false, and_true, true_and, if_false, if_true, and_self, ↓reduceIte]
  · simp only [cI_sI, cI_sJ, cI_sR, cI_sA, cI_sB, cI_sQ, cR_sI, cR_sJ, cR_sR, cR_sA, cR_sB, cR_sQ, cA_sI, cA_sJ, cA_sR, cA_sA, cA_sB, cA_sQ, Nat.reduceEqDiff, false_and, and_false, and_true, true_and, if_false, if_true, and_self, ↓reduceIte]; rw [zA, if_pos rfl]
  · rw [cA_same]; unfold filf; rw [if_pos hr]
  · simp only [cI_sI, cI_sJ, cI_sR, cI_sA, cI_sB, cI_sQ, cR_sI, cR_sJ, cR_sR, cR_sA, cR_sB, cR_sQ, cA_sI, cA_sJ, cA_sR, cA_sA, cA_sB, cA_sQ, Nat.reduceEqDiff, false_and, and_false, and_true, true_and, if_false, if_true, and_self, ↓reduceIte]; rw [zA, if_pos rfl]
  · refine oth_tr (oth_tr ?_ oth_I) oth_A
    intro k a n
    refine ⟨?_, ?_, ?_, ?_, ?_, ?_⟩ <;> exact if_neg n
section QHouse
variable {c1 c2 c3 c7 c8 c10 c11 c12 : Cl} {d : Ad} {B B2 rd hr w : Nat} {u : Nat → Nat} {l : Nat} {A : Nat → Nat} {X R D H Q L : Nat} {K : Nat → Nat}
/-- the reference's begin of a text -/
theorem f_210h {cz : Cl} (hz : cI cz 11 B2 = 6) (hT : ∀ j, j < l → cA cz 0 B2 j = bI (u j)) (h1 : cI cz 1 B2 = nI l) : ∃ c', Kp [4, 8, 9, 12, 14] cz c' ∧ RP c' B2 u l 0 ∧ cI c' 9 B2 = 0 ∧ cI c' 14 B2 = 0 ∧ ∀ {v}, (F_209 c' B2 >>= fun r6 => G_210 B2 0 [r6.1] [] [] r6.2) = some v → F_210 cz B2 = some v := by
  obtain ⟨c', hc'⟩ : ∃ c', c' = sI (sI (sI (sI (sA cz 4 B2 (upd (cA cz 4 B2) 6 0)) 14 B2 0) 8 B2 0) 9 B2 0) 12 B2 0 := ⟨_, rfl⟩
  have kc : Kp [4, 8, 9, 12, 14] cz c' := by rw [hc']; exact kp_tr (kp_A (by decide)) (kp_tr (kp_I (by decide)) (kp_tr (kp_I (by decide)) (kp_tr (kp_I (by decide)) (kp_I (by decide)))))
  refine ⟨c', kc, ⟨fun j hj => by rw [(kc 0 (by decide)).2.2.2.1]; exact hT j hj, by rw [(kc 1 (by decide)).1]; exact h1, ?_, Nat.zero_le _⟩, ?_, ?_, fun {v} e => ?_⟩
  · rw [hc']; simp only [cI_sI, cI_sJ, cI_sR, cI_sA, cI_sB, cI_sQ, cR_sI, cR_sJ, cR_sR, cR_sA, cR_sB, cR_sQ, cA_sI, cA_sJ, cA_sR, cA_sA, cA_sB, cA_sQ, Nat.reduceEqDiff, false_and, and_false, and_true, true_and, if_false, if_true, and_self, ↓reduceIte]; rfl
  · rw [hc']; simp only [cI_sI, cI_sJ, cI_sR, cI_sA, cI_sB, cI_sQ, cR_sI, cR_sJ, cR_sR, cR_sA, cR_sB, cR_sQ, cA_sI, cA_sJ, cA_sR, cA_sA, cA_sB, cA_sQ, Nat.reduceEqDiff, false_and, and_false, and_true, true_and, if_false, if_true, and_self, ↓reduceIte]
  · rw [hc']; simp only [cI_sI, cI_sJ, cI_sR, cI_sA, cI_sB, cI_sQ, cR_sI, cR_sJ, cR_sR, cR_sA, cR_sB, cR_sQ, cA_sI, cA_sJ, cA_sR, cA_sA, cA_sB, cA_sQ, Nat.reduceEqDiff, false_and, and_false, and_true, true_and, if_false, if_true, and_self, ↓reduceIte]
  · unfold F_210
    rw [hz]
    refine ob_mk (v := sA cz 4 B2 (upd (cA cz 4 B2) 6 0)) (ast_ok (i := 6) (by decide) (by decide)) (ob_mk rfl (ob_mk rfl (ob_mk rfl (ob_mk rfl ?_))))
    rw [← hc']; exact e
theorem q_house (inj : ∀ i j, i ≤ 20 → j ≤ 20 → A i = A j → i = j) (h : WM c1 c8 c10 c12 B2 (cR c11 7 B) A X R D H Q L K) (hX : X ≤ aX d) (hu : ∀ j, u j < 256) (l4 : l ≤ 400) (t1 : cI c11 1 B = nI l) (t2 : cI c12 1 B2 = nI l) (t3 : ∀ j, j < l → cA c11 0 B j = bI (u j)) (t4 : ∀ j, j < l → cA c12 0 B2 j = bI (u j)) (e2 : cR c11 2 B = rd) (e3 : cR c11 3 B = hr) (e20 : cR c2 0 hr = rd) (e30 : cR c3 0 rd = B) : ∃ rx rm, F_125 c1 c2 c3 c7 c8 c10 c11 d B = some rx ∧ F_212 c12 B2 = some rm ∧ rx.1 = rm.1 ∧ Oth (aX d) c1 rx.2.1 ∧ (Kp [1] c2 rx.2.2.1 ∧ Oth hr c2 rx.2.2.1) ∧ (Kp [1, 2, 3, 4, 5, 6, 7] c3 rx.2.2.2.1 ∧ Oth rd c3 rx.2.2.2.1) ∧ (∀ a, (∀ i, i ≤ 20 → a ≠ A i) → Sm8 c8 a rx.2.2.2.2.2.1 a) ∧ Oth (cR c11 7 B) c10 rx.2.2.2.2.2.2.1 ∧ rx.2.2.2.2.2.2.2.1 = sI c11 1 B 0 ∧ (Adm d rx.2.2.2.2.2.2.2.2 ∧ aX rx.2.2.2.2.2.2.2.2 = aX d + 9 ∧ aS rx.2.2.2.2.2.2.2.2 = aS d + 69) ∧ Kp [1, 4, 7, 8, 9, 10, 11, 12, 14, 20, 23] c12 rm.2 ∧ cI rm.2 1 B2 = 0 ∧ ((rx.2.2.2.2.1 = c7 ∧ cA rm.2 20 B2 = cA c12 20 B2) ∨ rx.2.2.2.2.1 = sI c7 1 (cR c11 12 B) 0) ∧ ∃ R' D' H' Q' L' K', WM rx.2.1 rx.2.2.2.2.2.1 rx.2.2.2.2.2.2.1 rm.2 B2 (cR c11 7 B) A (aX rx.2.2.2.2.2.2.2.2) R' D' H' Q' L' K' := by
  obtain ⟨U, hU, hw⟩ := id h
  -- the class begins
  obtain ⟨hf, of⟩ := h9_ok c1 (aX d)
  obtain ⟨r22, g1, g2, g3, g4, g5⟩ := f_22 (c3 := c3) (c11 := c11) (rd := rd) hu l4 (fun j hj => by rw [e30]; exact t3 j hj)
  -- the reference begins
  obtain ⟨z1, hz1⟩ : ∃ z1, z1 = sI c12 11 B2 6 := ⟨_, rfl⟩
  have k1 : Kp [11] c12 z1 := by rw [hz1]; exact kp_I (by decide)
  obtain ⟨d', hd'⟩ : ∃ d', d' = nD_1 (adr d 1) (aX d) := ⟨_, rfl⟩
  have dA : Adm d d' := by rw [hd']; exact adm_tr (adm_r d 1) (adm_1 _ _)
  have dX : aX d' = aX d + 9 := by rw [hd', nD_1_x]; show aX d + 1 + 8 = _; omega
  have dS : aS d' = aS d + 69 := by rw [hd', nD_1_s]; show aS d + 13 + 56 = _; omega
  obtain ⟨rm, m1, m2⟩ : Rn (F_212 c12 B2) (fun rm => ∃ rx, F_125 c1 c2 c3 c7 c8 c10 c11 d B = some rx ∧ rx.1 = rm.1 ∧ Oth (aX d) c1 rx.2.1 ∧ (Kp [1] c2 rx.2.2.1 ∧ Oth hr c2 rx.2.2.1) ∧ (Kp [1, 2, 3, 4, 5, 6, 7] c3 rx.2.2.2.1 ∧ Oth rd c3 rx.2.2.2.1) ∧ (∀ a, (∀ i, i ≤ 20 → a ≠ A i) → Sm8 c8 a rx.2.2.2.2.2.1 a) ∧ Oth (cR c11 7 B) c10 rx.2.2.2.2.2.2.1 ∧ rx.2.2.2.2.2.2.2.1 = sI c11 1 B 0 ∧ (Adm d rx.2.2.2.2.2.2.2.2 ∧ aX rx.2.2.2.2.2.2.2.2 = aX d + 9 ∧ aS rx.2.2.2.2.2.2.2.2 = aS d + 69) ∧ Kp [1, 4, 7, 8, 9, 10, 11, 12, 14, 20, 23] c12 rm.2 ∧ cI rm.2 1 B2 = 0 ∧ ((rx.2.2.2.2.1 = c7 ∧ cA rm.2 20 B2 = cA c12 20 B2) ∨ rx.2.2.2.2.1 = sI c7 1 (cR c11 12 B) 0) ∧ ∃ R' D' H' Q' L' K', WM rx.2.1 rx.2.2.2.2.2.1 rx.2.2.2.2.2.2.1 rm.2 B2 (cR c11 7 B) A (aX rx.2.2.2.2.2.2.2.2) R' D' H' Q' L' K') := by
    unfold F_212
    refine rn_s ?_
    rw [← hz1]
    refine gl_212 (cz := z1) (fun z2 k2 hY => ?_) 7 0 z1 rfl (kp_rf _ _) (fun j hj => absurd hj (Nat.not_lt_zero _))
    obtain ⟨z3, hz3⟩ : ∃ z3, z3 = sA z2 7 B2 (upd (cA z2 7 B2) 7 (-1)) := ⟨_, rfl⟩
    have k3 : Kp [7] z2 z3 := by rw [hz3]; exact kp_A (by decide)
    have kk : Kp [7, 11] c12 z3 := kp_tr (kp_wd k1 (by decide)) (kp_tr (kp_wd k2 (by decide)) (kp_wd k3 (by decide)))
    have e11 : cI z3 11 B2 = 6 := by rw [(k3 11 (by decide)).1, (k2 11 (by decide)).1, hz1, cI_same]
    have hYf : Yf (cA z3 7 B2) := ⟨fun j hj => by rw [hz3, cA_same, pk_un (by omega)]; exact hY j hj, by rw [hz3, cA_same, pk_us]⟩
    obtain ⟨z4, k4, R4, n9, n14, hz4⟩ := f_210h (cz := z3) (u := u) (l := l) e11 (fun j hj => by rw [(kk 0 (by decide)).2.2.2.1]; exact t4 j hj) (by rw [(kk 1 (by decide)).1]; exact t2)
    obtain ⟨rx, rm, x1, x2, ⟨o1, ⟨o2, o3⟩, ⟨o4, o5⟩, o6, o7, o8⟩, hres⟩ := rd_all (c1 := nC_1 c1 (aX d)) (c2 := sI c2 1 hr 0) (c3 := r22) (c11 := c11) (c12 := z4) (d := d') (ho := aX d) hu l4 hf (by rw [(k4 7 (by decide)).2.2.2.1]; exact hYf) (by rw [cI_same]) (by rw [cR_sI]; exact e20) g4 g5 R4 rfl n9 (by rw [(k4 11 (by decide)).1]; exact e11) n14
    have m3 : F_210 z3 B2 = some rm := hz4 x2
    have kz : Kp [1, 4, 7, 8, 9, 10, 11, 12, 14] c12 rm.2 := kp_tr (kp_wd kk (by decide)) (kp_tr (kp_wd k4 (by decide)) (kp_wd o7 (by decide)))
    have x15 : F_15 c1 c2 c3 c11 d hr (nI l) = some rx := by
      unfold F_15
      rw [e20]
      refine ob_mk (v := (nC_1 c1 (aX d), d')) (by rw [hd']; rfl) (ob_mk g1 (ob_mk rfl x1))
    have O1 : Oth (aX d) c1 rx.2.1 := oth_tr of o1
    have K2 : Kp [1] c2 rx.2.2.1 := kp_tr (kp_I (by decide)) o2
    have O2 : Oth hr c2 rx.2.2.1 := oth_tr oth_I o3
    have K3 : Kp [1, 2, 3, 4, 5, 6, 7] c3 rx.2.2.2.1 := kp_tr g2 (kp_wd o4 (by decide))
    have O3 : Oth rd c3 rx.2.2.2.1 := oth_tr g3 o5
    rw [G_212]
    refine rn_p (by decide) (rn_e (v := z3) (by rw [hz3]; exact ast_ok (i := 7) (by decide) (by decide)) (rn_e m3 ?_))
    rcases hres with ⟨b1, b2, R', D', H', Q', lg, r2', r6', hHR⟩ | ⟨b1, b2, f, b3, b4⟩
    · refine rn_n (by rw [b1]; decide) ?_
      obtain ⟨⟨y0n, y0⟩, -, ⟨y2n, y2, h6⟩, -, y4, y5⟩ := hHR.1
      refine gl_212a (cz := rm.2) (fun z5 k5 h5 => ?_) 221 0 rm.2 rfl (kp_rf _ _) (fun j hj => absurd hj (Nat.not_lt_zero _))
      have e75 : cA z5 7 B2 = cA rm.2 7 B2 := by rw [(k5 7 (by decide)).2.2.2.1]
      refine gl_212b (cz := z5) (R := R') (H := H') ?_ r6' (by rw [e75]; exact y0) (by rw [e75]; exact y2) h6 (by rw [e75]; exact y4) (fun z6 S L' k6 l9 hL' hS0 e20' e23 => ?_) 94 0 z5 rfl (kp_rf _ _) (fun j hj => absurd hj (Nat.not_lt_zero _)) (fun j _ hj => h5 j hj)
      · rw [e75]
        rcases hHR.2.2.2.2.2.2 with ⟨_, e, _⟩ | ⟨_, L', l9, e, _⟩
        · exact Or.inr e
        · exact Or.inl ⟨L', l9, e⟩
      · rw [e75] at hL' hS0
        have hLc : cI rx.2.1 4 (aX d) = nI L' := by
          rcases hHR.2.2.2.2.2.2 with ⟨_, e, e'⟩ | ⟨_, L2, l92, e, e'⟩
          · rcases hL' with z | ⟨_, z⟩
            · rw [e] at z
              exfalso
              have : ¬ (-1 : Int32) < 0 := by rw [z]; exact nI_pos (by omega)
              exact this (by decide)
            · rw [z]; exact e'
          · rcases hL' with z | ⟨z, _⟩
            · rw [e'] ; rw [e] at z; exact z
            · rw [e] at z
              exfalso
              have : ¬ (-1 : Int32) < 0 := by rw [← z]; exact nI_pos (by omega)
              exact this (by decide)
        obtain ⟨a1, a2, a3, ⟨M, E, m9, s⟩, ⟨o, o20, b1', b2', b3', b4'⟩, a5, -⟩ := id hw
        obtain ⟨K', c8', w1, w2, w3, w4⟩ := begin_ok (c8 := c8) (st := A 0) hHR r6' hLc l9 hS0
        have k56 : Kp [20, 23] rm.2 z6 := kp_tr (kp_wd k5 (by decide)) k6
        have kz6 : Kp [1, 4, 7, 8, 9, 10, 11, 12, 14, 20, 23] c12 z6 := kp_tr (kp_wd kz (by decide)) (kp_wd k56 (by decide))
        have h125 : F_125 c1 c2 c3 c7 c8 c10 c11 d B = some (cI rx.2.1 2 (aX d), rx.2.1, rx.2.2.1, rx.2.2.2.1, sI c7 1 (cR c11 12 B) 0, c8', sI (sI c10 3 (cR c11 7 B) 0) 5 (cR c11 7 B) 0, sI c11 1 B 0, rx.2.2.2.2) := by
          unfold F_125
          rw [e3, t1]
          refine ob_mk x15 (ob_mk rfl (in_neg (by rw [b2]; exact fun z => by cases z) ?_))
          rw [b2]
          refine ob_mk (v := (c8', sI (sI c10 3 (cR c11 7 B) 0) 5 (cR c11 7 B) 0)) ?_ (ob_mk rfl rfl)
          unfold F_117
          rw [show cR (sI c11 1 B 0) 7 B = cR c11 7 B from rfl, a1]
          exact ob_mk w1 (ob_mk rfl (ob_mk rfl rfl))
        refine ⟨_, h125, y2n, O1, ⟨K2, O2⟩, ⟨K3, O3⟩, fun a ha => oth_sm w2 (fun z => ha 0 (by decide) z), oth_tr oth_I oth_I, rfl, by rw [o6]; exact ⟨dA, dX, dS⟩, kz6, by show cI z6 1 B2 = 0; rw [(k56 1 (by decide)).1]; exact o8, Or.inr rfl, R', D', H', Q', L', K', 0, by show cI z6 23 B2 = nI 0; rw [e23]; rfl, ?_⟩
        show WR rx.2.1 c8' (sI (sI c10 3 (cR c11 7 B) 0) 5 (cR c11 7 B) 0) (cR c11 7 B) A (cA z6 20 B2) (cA z6 22 B2) 0 (cI z6 21 B2) (aX rx.2.2.2.2) R' D' H' Q' L' K'
        rw [e20', o6, dX]
        refine ⟨a1, a2, fun i hi => ?_, ⟨0, 0, by decide, w4⟩, ⟨o, o20, ?_, ?_, by decide, fun i hi => absurd hi (Nat.not_lt_zero _)⟩, ⟨?_, ?_⟩, 0, by decide, ?_, ?_, fun i hi => absurd hi (Nat.not_lt_zero _)⟩
        · by_cases z : i = 0
          · rw [z, w3]; omega
          · rw [(w2 0 (A i) (fun q => z (inj i 0 hi (by decide) q))).2.2.1]
            have := a3 i hi; omega
        · simp only [cI_sI, cI_sJ, cI_sR, cI_sA, cI_sB, cI_sQ, cR_sI, cR_sJ, cR_sR, cR_sA, cR_sB, cR_sQ, cA_sI, cA_sJ, cA_sR, cA_sA, cA_sB, cA_sQ, Nat.reduceEqDiff, false_and, and_false, and_true, true_and, if_false, if_true, and_self, ↓reduceIte]; exact b1'
        · simp only [cI_sI, cI_sJ, cI_sR, cI_sA, cI_sB, cI_sQ, cR_sI, cR_sJ, cR_sR, cR_sA, cR_sB, cR_sQ, cA_sI, cA_sJ, cA_sR, cA_sA, cA_sB, cA_sQ, Nat.reduceEqDiff, false_and, and_false, and_true, true_and, if_false, if_true, and_self, ↓reduceIte]; rfl
        · simp only [cI_sI, cI_sJ, cI_sR, cI_sA, cI_sB, cI_sQ, cR_sI, cR_sJ, cR_sR, cR_sA, cR_sB, cR_sQ, cA_sI, cA_sJ, cA_sR, cA_sA, cA_sB, cA_sQ, Nat.reduceEqDiff, false_and, and_false, and_true, true_and, if_false, if_true, and_self, ↓reduceIte]
          rw [(kz6 21 (by decide)).1]; exact a5.1
        · rw [(kz6 21 (by decide)).1]; exact a5.2
        · simp only [cI_sI, cI_sJ, cI_sR, cI_sA, cI_sB, cI_sQ, cR_sI, cR_sJ, cR_sR, cR_sA, cR_sB, cR_sQ, cA_sI, cA_sJ, cA_sR, cA_sA, cA_sB, cA_sQ, Nat.reduceEqDiff, false_and, and_false, and_true, true_and, if_false, if_true, and_self, ↓reduceIte]; rfl
        · rw [kp_out (by omega)]; exact hS0.2.2 220 (by decide) (by decide)
    · have h125 : F_125 c1 c2 c3 c7 c8 c10 c11 d B = some ((-2) - nI f, rx.2.1, rx.2.2.1, rx.2.2.2.1, c7, c8, c10, sI c11 1 B 0, rx.2.2.2.2) := by
        unfold F_125
        rw [e3, t1]
        refine ob_mk x15 (ob_mk rfl (in_pos b2 ?_))
        rw [show cR (sI c11 1 B 0) 2 B = rd from e2, b3]
      refine rn_p b1 (rn_r ⟨_, h125, ?_, O1, ⟨K2, O2⟩, ⟨K3, O3⟩, fun a _ => Sm8.rf _ _, oth_rf _ _, rfl, by rw [o6]; exact ⟨dA, dX, dS⟩, kp_wd kz (by decide), o8, Or.inl ⟨rfl, by show cA rm.2 20 B2 = _; rw [(kz 20 (by decide)).2.2.2.1]⟩, R, D, H, Q, L, K, U, by show cI rm.2 23 B2 = _; rw [(kz 23 (by decide)).1]; exact hU, ?_⟩)
      · show (-2 : Int32) - nI f = -2 - cI rm.2 9 B2
        rw [b4]
      · show WR rx.2.1 c8 c10 (cR c11 7 B) A (cA rm.2 20 B2) (cA rm.2 22 B2) U (cI rm.2 21 B2) (aX rx.2.2.2.2) R D H Q L K
        rw [(kz 20 (by decide)).2.2.2.1, (kz 22 (by decide)).2.2.2.1, (kz 21 (by decide)).1]
        exact WR_c (fun i _ => Sm8.rf _ _) (fun ho hh => oth_s1 O1 (by omega)) (Sw.rf _ _) (fun _ _ => rfl) (fun _ _ => rfl) (by rw [o6, dX]; omega) hw
  obtain ⟨rx, n1, n2⟩ := m2
  exact ⟨rx, rm, n1, m1, n2⟩
end QHouse
