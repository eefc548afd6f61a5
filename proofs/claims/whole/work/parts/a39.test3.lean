/-! ===== rules: a fact, a test, the reference ===== -/
section Test3
variable {c : Cl} {B2 t : Nat} {u : Nat → Nat} {l : Nat} {x y : Ps} {j dd : Nat} {σ : List Nat}
theorem fact_ok (hu : ∀ j, u j < 256) (l4 : l ≤ 400) (ht : t < 6) : ∀ (e dd : Nat), dd + e = 10 → ∀ (x : Ps) (σ : List Nat) (c : Cl) (j : Nat), (∀ a, a ∈ σ → ops a) → RQs B2 t u l c x σ dd → SL l (σ.length + j) x → FaO B2 t u l σ dd (pfa u l e x) c (KF B2 c) := fun e => by
  -- one step, from what lies deeper
  have key : ∀ (e dd : Nat), dd + e = 10 → (∀ e', e = e' + 1 → ∀ (x : Ps) (σ : List Nat) (c : Cl) (j : Nat), (∀ a, a ∈ σ → ops a) → RQs B2 t u l c x σ (dd + 1) → SL l (σ.length + j) x → FaO B2 t u l σ (dd + 1) (pfa u l e' x) c (KF B2 c)) → ∀ (x : Ps) (σ : List Nat) (c : Cl) (j : Nat), (∀ a, a ∈ σ → ops a) → RQs B2 t u l c x σ dd → SL l (σ.length + j) x → FaO B2 t u l σ dd (pfa u l e x) c (KF B2 c) := fun e dd hde rec x σ c j hσ h hs => by
    obtain ⟨⟨n, hR, hn⟩, -⟩ := id h.1
    have pp : sk u l (rP x) = rP x := by rw [← hn]; exact sk_sk
    obtain ⟨s, s1, s2, s3, s4, s5, -⟩ := f_177q hu l4 h.1
    obtain ⟨r, r1, r2, r3, r4⟩ := f_180p (c := s.2) (B2 := B2) (w := 7237492) (i := 22) hu l4 (by decide) rfl s4 pp
    have k0 : Kp [8] c r.2 := kp_tr s2 r2
    have hS : RQs B2 t u l r.2 x σ dd := RQs_8 (x := x) k0 r3 pp rfl rfl rfl h
    have f0 : FQ B2 t TK c r.2 := fq_k k0 (by decide) (by decide)
    have len : σ.length ≤ 400 := sl_len l4 hs
    -- how the loop goes on
    have go : ∀ {y : Option (Int32 × Cl)}, (if r.1 = 0 then if s.1 = 91 then F_187 r.2 B2 91 >>= fun r8 => if r8.1 = 0 then some (0, r8.2) else some (sI r8.2 8 B2 ((cI r8.2 8 B2) + 1)) >>= fun c12_10 => G_194 B2 0 [1] [] [] c12_10 else G_194 B2 0 [0] [] [] r.2 else F_187 r.2 B2 11 >>= fun r11 => if r11.1 = 0 then some (0, r11.2) else F_181 r11.2 B2 >>= fun r13 => G_194 B2 0 [1] [] [] r13) = y → G_194 B2 0 [1] [] [] c = y := fun {y} ey => by
      rw [G_194, if_neg (by decide)]
      exact ob_e s1 (ob_e r1 ey)
    have toKF : ∀ {c1 : Cl}, G_194 B2 0 [1] [] [] c = G_194 B2 0 [1] [] [] c1 → KF B2 c = KF B2 c1 := fun {c1} e => by unfold KF; rw [e]
    have toBad : ∀ {c1 : Cl} {f : Nat}, G_194 B2 0 [1] [] [] c = some (0, c1) → FQ B2 t TK c c1 → cI c1 9 B2 = nI f → Rn (KF B2 c) (BadK B2 t c f) := fun {c1 f} e1 e2 e3 => by
      unfold KF
      rw [e1]
      exact rn_s (rn_p rfl (rn_r ⟨e2, rfl, e3⟩))
    by_cases k22 : kd u l (rP x) = 22
    · -- not
      rcases r4 with ⟨_, r5⟩ | ⟨z, _⟩
      · have pl := kd_lt_l (u := u) (l := l) (x := x) (by omega)
        have rl : σ.length < 400 := by have := hs.1; have := hs.2.1; omega
        rcases f_187 (o := 11) (by omega) rl r3 hS with ⟨d1, c1, g1, g2, g3⟩ | ⟨d1, c1, g1, g2, g3⟩
        · cases e with
          | zero => omega
          | succ e =>
            obtain ⟨-, -, hle⟩ := kd_wl (p := rP x) (i := 22) hu (by decide) k22
            obtain ⟨c2, m1, m2, m3⟩ := f_181 hu l4 (RP_k g2 (by decide) (by decide) (by decide) r3)
            have h2 : RQs B2 t u l c2 (pskx u l x) (11 :: σ) (dd + 1) := RQs_8 (x := x) m2 m3 hle.symm rfl rfl rfl g3
            have e1 : KF B2 c = KF B2 c2 := toKF (go ((if_neg (by rw [r5]; decide)).trans (ob_e g1 ((if_neg (by show ¬ (1 : Int32) = 0; decide)).trans (ob_e m1 rfl)))))
            have fc : FQ B2 t TK c c2 := fq_tr f0 (fq_tr (fq_k g2 (by decide) (by decide)) (fq_k m2 (by decide) (by decide)))
            have el : (11 :: σ).length = σ.length + 1 := rfl
            have sl2 : SL l ((11 :: σ).length + j) (pskx u l x) := sl_le (sl_sk (u := u) pl hs) (by rw [el]; omega)
            obtain ⟨p1, p2⟩ := rec e rfl (pskx u l x) (11 :: σ) c2 j (fun a ha => by
              rcases List.mem_cons.mp ha with q | q
              · rw [q]; exact Or.inl rfl
              · exact hσ a q) h2 sl2
            have ep : pfa u l (e + 1) x = pb (pfa u l e (pskx u l x)) (fun y => .inr (pput 31 y)) := by
              show (if kd u l (rP x) = 22 then _ else _) = _
              rw [if_pos k22]
            rw [ep, e1]
            cases hv : pfa u l e (pskx u l x) with
            | inl f => exact ⟨fun f' hf => (by cases hf; exact bad_tr fc (p1 f hv)), fun y hy => (by cases hy)⟩
            | inr z =>
              obtain ⟨c3, f3, h3, e3⟩ := p2 z hv
              have ms := pfa_ms l4 e _ _ _ sl2 hv
              obtain ⟨c4, i1, i2, i3, i4⟩ := set_pop (least := 3) (a := 11) (r := σ) l4 ht (by decide) rfl (Or.inl rfl) (by decide) (fun _ => by omega) (by omega) h3 ms.1
              refine ⟨fun f hf => (by cases hf), fun y hy => ?_⟩
              cases hy
              exact ⟨c4, fq_tr fc (fq_tr f3 (fq_wd i1 (by decide))), i2, e3.trans (ks_p i4)⟩
        · have e0 : e = 0 := by omega
          subst e0
          have ep : pfa u l 0 x = .inl (flt (rP x) 2) := by
            show (if kd u l (rP x) = 22 ∨ kd u l (rP x) = 191 then _ else _) = _
            rw [if_pos (Or.inl k22)]
          rw [ep]
          refine ⟨fun f hf => ?_, fun y hy => (by cases hy)⟩
          cases hf
          exact toBad (go ((if_neg (by rw [r5]; decide)).trans (ob_e g1 (if_pos rfl)))) (fq_tr f0 (fq_k g2 (by decide) (by decide))) g3
      · exact absurd k22 z
    · have r0 : r.1 = 0 := by
        rcases r4 with ⟨z, _⟩ | ⟨_, z⟩
        · exact absurd z k22
        · exact z
      by_cases k191 : kd u l (rP x) = 191
      · -- a bracket
        have s91 : s.1 = (91 : Int32) := (s5 91 sg_91).mpr k191
        have pl := kd_lt_l (u := u) (l := l) (x := x) (by omega)
        have rl : σ.length < 400 := by have := hs.1; have := hs.2.1; omega
        rcases f_187 (o := 91) (by omega) rl r3 hS with ⟨d1, c1, g1, g2, g3⟩ | ⟨d1, c1, g1, g2, g3⟩
        · cases e with
          | zero => omega
          | succ e =>
            have R1 : RP c1 B2 u l (rP x) := RP_k g2 (by decide) (by decide) (by decide) r3
            obtain ⟨c2, hc2⟩ : ∃ c2, c2 = sI c1 8 B2 ((cI c1 8 B2) + 1) := ⟨_, rfl⟩
            have k2 : Kp [8] c1 c2 := by rw [hc2]; exact kp_I (by decide)
            have h2 : RQs B2 t u l c2 (pskx u l x) (91 :: σ) (dd + 1) := RQs_k k2 (by decide) (by decide) (by decide) (by rw [hc2]; exact adv_q sg_91 g3.1 R1 k191) g3
            have e1 : KF B2 c = KF B2 c2 := toKF (go ((if_pos r0).trans ((if_pos s91).trans (ob_e g1 ((if_neg (by show ¬ (1 : Int32) = 0; decide)).trans (ob_e (v := c2) (by rw [hc2]) rfl))))))
            have fc : FQ B2 t TK c c2 := fq_tr f0 (fq_tr (fq_k g2 (by decide) (by decide)) (fq_k k2 (by decide) (by decide)))
            have el : (91 :: σ).length = σ.length + 1 := rfl
            have sl2 : SL l ((91 :: σ).length + j) (pskx u l x) := sl_le (sl_sk (u := u) pl hs) (by rw [el]; omega)
            have bσ : ∀ a, a ∈ 91 :: σ → ops a := fun a ha => by
              rcases List.mem_cons.mp ha with q | q
              · rw [q]; exact Or.inr (Or.inr (Or.inr rfl))
              · exact hσ a q
            have hβ : bas (91 :: σ) := ⟨bσ, Or.inr ⟨σ, rfl⟩⟩
            obtain ⟨p1, p2⟩ := rec e rfl (pskx u l x) (91 :: σ) c2 j bσ h2 sl2
            have ep : pfa u l (e + 1) x = pb (pb (pfa u l e (pskx u l x)) (ptl u l (pfa u l e) 400 false)) (pcls u l) := by
              show (if kd u l (rP x) = 22 then _ else if kd u l (rP x) = 191 then _ else _) = _
              rw [if_neg k22, if_pos k191]
            rw [ep, e1]
            cases hv : pfa u l e (pskx u l x) with
            | inl f => exact ⟨fun f' hf => (by cases hf; exact bad_tr fc (p1 f hv)), fun y hy => (by cases hy)⟩
            | inr z =>
              obtain ⟨c3, f3, h3, e3⟩ := p2 z hv
              have ms := pfa_ms l4 e _ _ _ sl2 hv
              have T := tl_ok (e := e) (β := 91 :: σ) hu l4 ht (show dd + 1 ≤ 10 by omega) hβ (fun x σ c j a b c' => rec e rfl x σ c j a b c') 400 false false z c3 j (by omega) h3 ms.1
              show FaO B2 t u l σ dd (pb (ptl u l (pfa u l e) 400 false z) (pcls u l)) c (KF B2 c2)
              rw [e3]
              cases hw : ptl u l (pfa u l e) 400 false z with
              | inl f => exact ⟨fun f' hf => (by cases hf; exact bad_tr (fq_tr fc f3) (T.1 f hw)), fun y hy => (by cases hy)⟩
              | inr w =>
                obtain ⟨c4, a, b, x', f4, h4, s4', ew, n20, n21, e4⟩ := T.2 w hw
                have pw : rP w = rP x' := by rw [ew, rP_por, rP_andp]
                rw [e4]
                show FaO B2 t u l σ dd (pcls u l w) c (KS B2 c4)
                unfold pcls
                by_cases k193 : kd u l (rP w) = 193
                · rw [if_pos k193]
                  obtain ⟨c5, i1, i2, i3, i4⟩ := ks_close hu l4 ht (by omega) (by omega) hβ h4 s4' (by rw [← pw]; exact k193)
                  refine ⟨fun f hf => (by cases hf), fun y hy => ?_⟩
                  cases hy
                  refine ⟨c5, fq_tr fc (fq_tr f3 (fq_tr f4 i1)), ?_, i4⟩
                  rw [ew]; exact i2
                · rw [if_neg k193]
                  obtain ⟨c5, i1, i2, i3, i4⟩ := ks_exit hu l4 hβ h4 s4' (Or.inl (by rw [← pw]; exact k193))
                  obtain ⟨c6, j1, j2, j3⟩ := kr_end hu l4 i2 n20 n21
                  have f5 := f_195 (sl_len l4 s4') (tau_ops hβ) j2
                  rw [if_pos (List.mem_append.mpr (Or.inr List.mem_cons_self))] at f5
                  obtain ⟨s6, t1, t2, t3, t4, -⟩ := f_177q hu l4 j2.1
                  obtain ⟨q, q1, q2, q3, q4, -⟩ := f_176 (c := s6.2) (B2 := B2) (w := 0) (p := rP x')
                  refine ⟨fun f hf => ?_, fun y hy => (by cases hy)⟩
                  cases hf
                  rw [i4, j3, G_197]
                  refine rn_p rfl (rn_e f5 (rn_n (by decide) (rn_e t1 ?_)))
                  rw [t4.2.2.1]
                  refine rn_e q1 ?_
                  rw [q2]
                  refine rn_e zb_0 (rn_r ⟨fq_tr fc (fq_tr f3 (fq_tr f4 (fq_tr (fq_k i1 (by decide) (by decide)) (fq_tr (fq_k j1 (by decide) (by decide)) (fq_tr (fq_k t2 (by decide) (by decide)) (fq_k q3 (by decide) (by decide))))))), rfl, ?_⟩)
                  show cI q.2 9 B2 = _
                  rw [q4 t3.2.1, pw]
        · have e0 : e = 0 := by omega
          subst e0
          have ep : pfa u l 0 x = .inl (flt (rP x) 2) := by
            show (if kd u l (rP x) = 22 ∨ kd u l (rP x) = 191 then _ else _) = _
            rw [if_pos (Or.inr k191)]
          rw [ep]
          refine ⟨fun f hf => ?_, fun y hy => (by cases hy)⟩
          cases hf
          exact toBad (go ((if_pos r0).trans ((if_pos s91).trans (ob_e g1 (if_pos rfl))))) (fq_tr f0 (fq_k g2 (by decide) (by decide))) g3
      · -- a comparison
        have n91 : ¬ s.1 = (91 : Int32) := fun z => k191 ((s5 91 sg_91).mp z)
        obtain ⟨q, g1, g2, g3⟩ := f_193 (j := σ.length + j) hu l4 ht hS.1 hs
        have ep : pfa u l e x = pcmp u l x := by
          cases e with
          | zero =>
            show (if kd u l (rP x) = 22 ∨ kd u l (rP x) = 191 then _ else _) = _
            rw [if_neg (by omega)]
          | succ e =>
            show (if kd u l (rP x) = 22 then _ else if kd u l (rP x) = 191 then _ else _) = _
            rw [if_neg k22, if_neg k191]
        rw [ep]
        have hb : q.1 = 0 ∨ q.1 = 1 := by
          cases hv : pcmp u l x with
          | inl f => rw [hv] at g3; exact Or.inl g3.1
          | inr z => rw [hv] at g3; exact Or.inr g3.1
        have e1 : G_194 B2 0 [1] [] [] c = some q := go ((if_pos r0).trans ((if_neg n91).trans (by
          rw [G_194, if_pos rfl]
          exact ob_mk g1 (zb_ok hb))))
        have fq' : FQ B2 t TK c q.2 := fq_tr f0 (fq_wd g2 (by decide))
        cases hv : pcmp u l x with
        | inl f =>
          rw [hv] at g3
          refine ⟨fun f' hf => ?_, fun y hy => (by cases hy)⟩
          cases hf
          exact toBad (c1 := q.2) (by rw [e1, ← g3.1]) fq' g3.2
        | inr z =>
          rw [hv] at g3
          refine ⟨fun f hf => (by cases hf), fun y hy => ?_⟩
          cases hy
          refine ⟨q.2, fq', RQs_k (Ks := [3, 4, 8, 9, 10, 12]) g2.1 (by decide) (by decide) (by decide) g3.2 hS, ?_⟩
          unfold KF
          rw [e1]
          exact if_neg (by rw [g3.1]; decide)
  induction e with
  | zero => exact fun dd h => key 0 dd h (fun e' z => by omega)
  | succ e ih => exact fun dd h => key (e + 1) dd h (fun e' z => by cases z; exact ih (dd + 1) (by omega))
/-- a test -/
theorem f_197 (hu : ∀ j, u j < 256) (l4 : l ≤ 400) (ht : t < 6) (h : RQ B2 t u l c x) (hs : SL l j x) : Rn (F_197 c B2) (fun q => FQ B2 t TK c q.2 ∧ QO B2 t u l (ptest u l x) q) := by
  unfold F_197
  refine rn_s (rn_s ?_)
  obtain ⟨c1, hc1⟩ : ∃ c1, c1 = sI (sI c 16 B2 0) 13 B2 0 := ⟨_, rfl⟩
  rw [← hc1, kf_197]
  have k1 : Kp [13, 15, 16] c c1 := by rw [hc1]; exact kp_tr (kp_I (by decide)) (kp_I (by decide))
  have h1 : RQs B2 t u l c1 x [] 0 := ⟨RQ_st k1 h, by rw [hc1]; simp only [cI_sI, cI_sJ, cI_sR, cI_sA, cI_sB, cI_sQ, cR_sI, cR_sJ, cR_sR, cR_sA, cR_sB, cR_sQ, cA_sI, cA_sJ, cA_sR, cA_sA, cA_sB, cA_sQ, Nat.reduceEqDiff, false_and, and_false, and_true, true_and, if_false, if_true, and_self, ↓reduceIte]; rfl, True.intro, by rw [hc1]; simp only [cI_sI, cI_sJ, cI_sR, cI_sA, cI_sB, cI_sQ, cR_sI, cR_sJ, cR_sR, cR_sA, cR_sB, cR_sQ, cA_sI, cA_sJ, cA_sR, cA_sA, cA_sB, cA_sQ, Nat.reduceEqDiff, false_and, and_false, and_true, true_and, if_false, if_true, and_self, ↓reduceIte]; rfl⟩
  have f1 : FQ B2 t TK c c1 := fq_k k1 (by decide) (by decide)
  have hβ : bas [] := ⟨fun a ha => (by cases ha), Or.inl rfl⟩
  have hs1 : SL l (([] : List Nat).length + j) x := sl_le hs (by show 0 + j ≤ j; omega)
  have fa := fact_ok (B2 := B2) hu l4 ht 10 0 rfl
  obtain ⟨p1, p2⟩ := fa x [] c1 j (fun a ha => (by cases ha)) h1 hs1
  unfold ptest
  cases hv : pfa u l 10 x with
  | inl f => exact rn_m (p1 f hv) (fun q ⟨q1, q2, q3⟩ => ⟨fq_tr f1 q1, q2, q3⟩)
  | inr z =>
    obtain ⟨c3, f3, h3, e3⟩ := p2 z hv
    have ms := pfa_ms l4 10 _ _ _ hs1 hv
    have T := tl_ok (e := 10) (β := []) hu l4 ht (show 0 ≤ 10 by omega) hβ (fun x σ c j a b c' => fa x σ c j a b c') 400 false false z c3 j (by omega) h3 ms.1
    rw [e3]
    show Rn (KS B2 c3) (fun q => FQ B2 t TK c q.2 ∧ QO B2 t u l (ptl u l (pfa u l 10) 400 false z) q)
    cases hw : ptl u l (pfa u l 10) 400 false z with
    | inl f => exact rn_m (T.1 f hw) (fun q ⟨q1, q2, q3⟩ => ⟨fq_tr f1 (fq_tr f3 q1), q2, q3⟩)
    | inr w =>
      obtain ⟨c4, a, b, x', f4, h4, s4', ew, n20, n21, e4⟩ := T.2 w hw
      obtain ⟨c5, i1, i2, i3, i4⟩ := ks_exit hu l4 hβ h4 s4' (Or.inr rfl)
      obtain ⟨c6, j1, j2, j3⟩ := kr_end hu l4 i2 n20 n21
      have f5 := f_195 (sl_len l4 s4') (tau_ops hβ) j2
      have nm : ¬ 91 ∈ tau a b ++ [] := fun q => by
        unfold tau at q
        cases a <;> cases b <;> simp at q
      rw [if_neg nm] at f5
      obtain ⟨c7, m1, m2, m3, m4⟩ := set_1 l4 ht (by omega) hβ j2 s4'
      rw [e4, i4, j3, G_197]
      refine rn_p rfl (rn_e f5 (rn_p rfl (rn_e m4 (rn_r ⟨fq_tr f1 (fq_tr f3 (fq_tr f4 (fq_tr (fq_k i1 (by decide) (by decide)) (fq_tr (fq_k j1 (by decide) (by decide)) (fq_wd m1 (by decide)))))), rfl, ?_⟩))))
      rw [ew]; exact m2.1
end Test3
