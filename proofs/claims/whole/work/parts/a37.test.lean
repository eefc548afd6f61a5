/-! ===== rules: facts and tests, the reference ===== -/
abbrev TK : List Nat := [3, 4, 8, 9, 10, 12, 13, 15, 16]
/-- behind closing brackets -/
def KR (B2 : Nat) (c : Cl) : Option (Int32 × Cl) := F_180 c B2 6385252 >>= fun r13 => ((if r13.1 = 0 then F_180 r13.2 B2 28530 >>= fun r27 => if r27.1 = 0 then some (0, r27.2) else some (1, r27.2) else some (1, r13.2)) : Option (Int32 × Cl)) >>= fun (t14 : Int32 × Cl) => if t14.1 = 0 then G_197 B2 0 [t14.1] [] [] t14.2 else F_180 t14.2 B2 6385252 >>= fun r17 => ((if r17.1 = 0 then some 13 else some 12) : Option (Int32)) >>= fun (t18 : Int32) => F_181 r17.2 B2 >>= fun r20 => F_188 t18 >>= fun r21 => F_189 r20 B2 r21 >>= fun r22 => ast r22 15 B2 400 (cI r22 16 B2) t18 >>= fun c12_23 => some (sI c12_23 16 B2 ((cI c12_23 16 B2) + 1)) >>= fun c12_24 => G_197 B2 0 [t14.1] [] [] c12_24
/-- behind a fact -/
def KS (B2 : Nat) (c : Cl) : Option (Int32 × Cl) := F_196 c B2 >>= fun r12 => KR B2 r12
/-- at a fact -/
def KF (B2 : Nat) (c : Cl) : Option (Int32 × Cl) := G_194 B2 0 [1] [] [] c >>= fun r10 => if r10.1 = 0 then some (0, r10.2) else KS B2 r10.2
section Test
variable {c : Cl} {B2 t : Nat} {u : Nat → Nat} {l : Nat} {x y : Ps} {j dd : Nat} {σ : List Nat}
theorem kf_197 : G_197 B2 0 [1] [] [] c = KF B2 c := by
  rw [G_197, if_neg (by decide)]
  rfl
theorem ks_u {c1 : Cl} (h : F_189 c B2 3 = some c1) : KS B2 c = (G_196 B2 0 [] [] [] c1 >>= fun r12 => KR B2 r12) := by
  unfold KS F_196
  rw [h]; rfl
theorem ks_p {c1 : Cl} (h : F_189 c B2 3 = F_189 c1 B2 3) : KS B2 c = KS B2 c1 := by
  unfold KS F_196
  rw [h]
theorem sg_93 : sgc 93 := by unfold sgc; omega
theorem sg_91 : sgc 91 := by unfold sgc; omega
theorem RQs_8 {c' : Cl} {n : Nat} (k : Kp [8] c c') (hR : RP c' B2 u l n) (hn : sk u l n = rP y) (eK : rK y = rK x) (eV : rV y = rV x) (eC : rC y = rC x) (h : RQs B2 t u l c x σ dd) : RQs B2 t u l c' y σ dd := RQs_k k (by decide) (by decide) (by decide) (RQ_8 k hR hn eK eV eC h.1) h
/-- nothing closes here -/
theorem ks_exit {a b : Bool} {β : List Nat} (hu : ∀ j, u j < 256) (l4 : l ≤ 400) (hβ : bas β) (h : RQs B2 t u l c x (tau a b ++ β) dd) (hs : SL l ((tau a b ++ β).length + j) x) (hn : kd u l (rP x) ≠ 193 ∨ β = []) : ∃ c', Kp [8] c c' ∧ RQs B2 t u l c' x (tau a b ++ β) dd ∧ RP c' B2 u l (rP x) ∧ KS B2 c = KR B2 c' := by
  obtain ⟨s, s1, s2, s3, s4, s5, -⟩ := f_177q hu l4 h.1
  have hS : RQs B2 t u l s.2 x (tau a b ++ β) dd := RQs_k s2 (by decide) (by decide) (by decide) s3 h
  refine ⟨s.2, s2, hS, s4, ?_⟩
  rw [ks_u (set_3 l4 hβ h hs), G_196]
  by_cases w : kd u l (rP x) = 193
  · rcases hn with z | z
    · exact absurd w z
    · have f5 := f_195 (sl_len l4 hs) (tau_ops hβ) hS
      have nm : ¬ 91 ∈ tau a b ++ β := fun q => by
        rw [z] at q
        unfold tau at q
        cases a <;> cases b <;> simp at q
      rw [if_neg nm] at f5
      refine ob_e (v := s.2) (ob_e s1 ?_) rfl
      rw [if_pos (show s.1 = (93 : Int32) from (s5 93 sg_93).mpr w)]
      exact ob_e f5 (if_pos rfl)
  · refine ob_e (v := s.2) (ob_e s1 ?_) rfl
    exact if_neg (fun z => w ((s5 93 sg_93).mp z))
/-- a bracket closes -/
theorem ks_close {a b : Bool} {σ : List Nat} (hu : ∀ j, u j < 256) (l4 : l ≤ 400) (ht : t < 6) (hd : 1 ≤ dd) (hdd : dd ≤ 10) (hβ : bas (91 :: σ)) (h : RQs B2 t u l c x (tau a b ++ 91 :: σ) dd) (hs : SL l ((tau a b ++ 91 :: σ).length + j) x) (hk : kd u l (rP x) = 193) : ∃ c', FQ B2 t TK c c' ∧ RQs B2 t u l c' (pskx u l (por b (andp a x))) σ (dd - 1) ∧ SL l (σ.length + j) (pskx u l (por b (andp a x))) ∧ KS B2 c = KS B2 c' := by
  obtain ⟨s, s1, s2, s3, s4, s5, -⟩ := f_177q hu l4 h.1
  have hS : RQs B2 t u l s.2 x (tau a b ++ 91 :: σ) dd := RQs_k s2 (by decide) (by decide) (by decide) s3 h
  have f5 := f_195 (sl_len l4 hs) (tau_ops hβ) hS
  rw [if_pos (List.mem_append.mpr (Or.inr List.mem_cons_self))] at f5
  obtain ⟨c1, g1, g2, g3, g4⟩ := set_1 l4 ht hdd hβ hS hs
  obtain ⟨z, hz⟩ : ∃ z, z = por b (andp a x) := ⟨_, rfl⟩
  rw [← hz] at g2 g3 ⊢
  have rPz : rP z = rP x := by
    rw [hz]; unfold por andp
    cases a <;> cases b <;> simp [rP_put]
  obtain ⟨d1, hd1⟩ : ∃ d1, d1 = sI c1 16 B2 ((cI c1 16 B2) - 1) := ⟨_, rfl⟩
  obtain ⟨d2, hd2⟩ : ∃ d2, d2 = sI d1 13 B2 ((cI d1 13 B2) - 1) := ⟨_, rfl⟩
  have k1 : Kp [16] c1 d1 := by rw [hd1]; exact kp_I (by decide)
  have k2 : Kp [13] d1 d2 := by rw [hd2]; exact kp_I (by decide)
  have e16 : cI d2 16 B2 = nI σ.length := by
    rw [(k2 16 (by decide)).1, hd1, cI_same, g2.2.1]
    exact nI_pred _
  have e13 : cI d2 13 B2 = nI (dd - 1) := by rw [hd2, cI_same, (k1 13 (by decide)).1, g2.2.2.2, nI_m1 (by omega)]
  have st2 : StO (cA d2 15 B2) σ := by rw [(k2 15 (by decide)).2.2.2.1, (k1 15 (by decide)).2.2.2.1]; exact g2.2.2.1.2
  have Q2 : RQ B2 t u l d2 z := RQ_st (kp_tr (kp_wd k1 (by decide)) (kp_wd k2 (by decide))) g2.1
  have R2 : RP d2 B2 u l (rP z) := by
    rw [rPz]
    have ka : Kp [3, 4, 13, 16] s.2 d2 := kp_tr g1.1 (kp_tr (kp_wd k1 (by decide)) (kp_wd k2 (by decide)))
    exact RP_k ka (by decide) (by decide) (by decide) s4
  obtain ⟨d3, hd3⟩ : ∃ d3, d3 = sI d2 8 B2 ((cI d2 8 B2) + 1) := ⟨_, rfl⟩
  have k3 : Kp [8] d2 d3 := by rw [hd3]; exact kp_I (by decide)
  have Q3 : RQ B2 t u l d3 (pskx u l z) := by rw [hd3]; exact adv_q sg_93 Q2 R2 (by rw [rPz]; exact hk)
  have e : (91 :: σ).length = σ.length + 1 := rfl
  refine ⟨d3, fq_tr (fq_k s2 (by decide) (by decide)) (fq_tr (fq_wd g1 (by decide)) (fq_tr (fq_k k1 (by decide) (by decide)) (fq_tr (fq_k k2 (by decide) (by decide)) (fq_k k3 (by decide) (by decide))))), ⟨Q3, by rw [(k3 16 (by decide)).1]; exact e16, by rw [(k3 15 (by decide)).2.2.2.1]; exact st2, by rw [(k3 13 (by decide)).1]; exact e13⟩, sl_skw (sl_le g3 (by rw [e]; omega)), ?_⟩
  rw [ks_u (set_3 l4 hβ h hs), G_196]
  have s93 : s.1 = (93 : Int32) := (s5 93 sg_93).mpr hk
  unfold KS F_196
  have e2 : (F_177 c B2 >>= fun r2 => if r2.1 = 93 then F_195 r2.2 B2 >>= fun r4 => if r4 = 0 then some r2.2 else F_189 r2.2 B2 1 >>= fun r6 => some (sI r6 16 B2 ((cI r6 16 B2) - 1)) >>= fun c12_7 => some (sI c12_7 13 B2 ((cI c12_7 13 B2) - 1)) >>= fun c12_8 => some (sI c12_8 8 B2 ((cI c12_8 8 B2) + 1)) >>= fun c12_9 => F_189 c12_9 B2 3 >>= fun r10 => G_196 B2 0 [] [] [] r10 else some r2.2) = (F_189 d3 B2 3 >>= fun r10 => G_196 B2 0 [] [] [] r10) := by
    refine ob_e s1 ?_
    rw [if_pos s93]
    refine ob_e f5 ?_
    rw [if_neg (by decide)]
    refine ob_e g4 ?_
    rw [← hd1]
    refine ob_e (v := d1) rfl ?_
    rw [← hd2]
    refine ob_e (v := d2) rfl ?_
    rw [← hd3]
    rfl
  rw [e2]
/-- and, or -/
theorem kr_op {a b : Bool} {β : List Nat} {w : Nat} (hu : ∀ j, u j < 256) (l4 : l ≤ 400) (ht : t < 6) (hdd : dd ≤ 10) (hβ : bas β) (h : RQs B2 t u l c x (tau a b ++ β) dd) (hs : SL l ((tau a b ++ β).length + j) x) (hw : kd u l (rP x) = w) (hw2 : w = 20 ∨ w = 21) : ∃ c', FQ B2 t TK c c' ∧ ((w = 20 ∧ RQs B2 t u l c' (pskx u l (andp a x)) (tau true b ++ β) dd ∧ SL l ((tau true b ++ β).length + j) (pskx u l (andp a x))) ∨ (w = 21 ∧ RQs B2 t u l c' (pskx u l (por b (andp a x))) (tau false true ++ β) dd ∧ SL l ((tau false true ++ β).length + j) (pskx u l (por b (andp a x))))) ∧ KR B2 c = KF B2 c' := by
  obtain ⟨⟨n, hR, hn⟩, -⟩ := id h.1
  have pp : sk u l (rP x) = rP x := by rw [← hn]; exact sk_sk
  have pl : rP x < l := kd_lt_l (u := u) (x := x) (by omega)
  obtain ⟨-, -, hle⟩ := kd_wl (p := rP x) (i := w) hu (by omega) hw
  -- looked at three times
  have look : ∃ s, Kp [8] c s ∧ RP s B2 u l (rP x) ∧ ∀ {y : Option (Int32 × Cl)}, (F_181 s B2 >>= fun r20 => F_188 (if w = 20 then 12 else 13) >>= fun r21 => F_189 r20 B2 r21 >>= fun r22 => ast r22 15 B2 400 (cI r22 16 B2) (if w = 20 then 12 else 13) >>= fun c12_23 => some (sI c12_23 16 B2 ((cI c12_23 16 B2) + 1)) >>= fun c12_24 => G_197 B2 0 [1] [] [] c12_24) = y → KR B2 c = y := by
    obtain ⟨r1, q1, q2, q3, q4⟩ := f_180p (c := c) (B2 := B2) (w := 6385252) (i := 20) hu l4 (by decide) rfl hR hn
    rcases hw2 with z | z
    · subst z
      rcases q4 with ⟨q4, q5⟩ | ⟨q4, q5⟩
      · obtain ⟨r2, v1, v2, v3, v4⟩ := f_180p (c := r1.2) (B2 := B2) (w := 6385252) (i := 20) hu l4 (by decide) rfl q3 pp
        rcases v4 with ⟨v4, v5⟩ | ⟨v4, v5⟩
        · refine ⟨r2.2, kp_tr q2 v2, v3, fun {y} e => ?_⟩
          unfold KR
          refine ob_e q1 (ob_e (v := (1, r1.2)) (if_neg (by rw [q5]; decide)) ?_)
          rw [if_neg (by show ¬ (1 : Int32) = 0; decide)]
          refine ob_e v1 (ob_e (v := (12 : Int32)) (if_neg (by rw [v5]; decide)) e)
        · exact absurd hw v4
      · exact absurd hw q4
    · subst z
      rcases q4 with ⟨q4, q5⟩ | ⟨q4, q5⟩
      · omega
      · obtain ⟨r2, v1, v2, v3, v4⟩ := f_180p (c := r1.2) (B2 := B2) (w := 28530) (i := 21) hu l4 (by decide) rfl q3 pp
        rcases v4 with ⟨v4, v5⟩ | ⟨v4, v5⟩
        · obtain ⟨r3, y1, y2, y3, y4⟩ := f_180p (c := r2.2) (B2 := B2) (w := 6385252) (i := 20) hu l4 (by decide) rfl v3 pp
          rcases y4 with ⟨y4, y5⟩ | ⟨y4, y5⟩
          · omega
          · refine ⟨r3.2, kp_tr q2 (kp_tr v2 y2), y3, fun {y} e => ?_⟩
            unfold KR
            refine ob_e q1 (ob_e (v := (1, r2.2)) ?_ ?_)
            · rw [if_pos q5]
              exact ob_mk v1 (in_neg (by rw [v5]; decide) rfl)
            · rw [if_neg (by show ¬ (1 : Int32) = 0; decide)]
              exact ob_e y1 (ob_e (v := (13 : Int32)) (if_pos y5) e)
        · exact absurd hw v4
  obtain ⟨s, k1, R1, hlook⟩ := look
  obtain ⟨p1, m1, m2, m3⟩ := f_181 hu l4 R1
  have hP : RQs B2 t u l p1 (pskx u l x) (tau a b ++ β) dd := RQs_8 (x := x) (kp_tr k1 m2) m3 hle.symm rfl rfl rfl h
  have sk1 := sl_sk (u := u) pl hs
  have fp : FQ B2 t TK c p1 := fq_k (kp_tr k1 m2) (by decide) (by decide)
  have comA : pskx u l (andp a x) = andp a (pskx u l x) := by
    unfold andp
    cases a
    · rfl
    · exact due_sk (o := some 29)
  have comO : ∀ z, pskx u l (por b z) = por b (pskx u l z) := fun z => by
    unfold por
    cases b
    · rfl
    · exact due_sk (o := some 30)
  -- a sign is laid onto the stack
  have push : ∀ (c2 : Cl) (z : Ps) (τ : List Nat) (o : Nat), RQs B2 t u l c2 z τ dd → SL l (τ.length + (j + 1)) z → FQ B2 t [3, 4, 13, 16] p1 c2 → ∃ c', FQ B2 t TK c c' ∧ RQs B2 t u l c' z (o :: τ) dd ∧ SL l ((o :: τ).length + j) z ∧ ∀ {y : Option (Int32 × Cl)}, G_197 B2 0 [1] [] [] c' = y → (ast c2 15 B2 400 (cI c2 16 B2) (nI o) >>= fun c12_23 => some (sI c12_23 16 B2 ((cI c12_23 16 B2) + 1)) >>= fun c12_24 => G_197 B2 0 [1] [] [] c12_24) = y := fun c2 z τ o hz sz fz => by
    have tl : τ.length < 400 := by have := sz.1; have := sz.2.1; omega
    obtain ⟨d1, hd1⟩ : ∃ d1, d1 = sA c2 15 B2 (upd (cA c2 15 B2) τ.length (nI o)) := ⟨_, rfl⟩
    obtain ⟨d2, hd2⟩ : ∃ d2, d2 = sI d1 16 B2 ((cI d1 16 B2) + 1) := ⟨_, rfl⟩
    have k15 : Kp [15] c2 d1 := by rw [hd1]; exact kp_A (by decide)
    have k16 : Kp [16] d1 d2 := by rw [hd2]; exact kp_I (by decide)
    have kk : Kp [13, 15, 16] c2 d2 := kp_tr (kp_wd k15 (by decide)) (kp_wd k16 (by decide))
    have e : (o :: τ).length = τ.length + 1 := rfl
    refine ⟨d2, fq_tr fp (fq_tr (fq_wd fz (by decide)) (fq_k kk (by decide) (by decide))), ⟨RQ_st kk hz.1, ?_, ⟨?_, ?_⟩, ?_⟩, sl_le sz (by rw [e]; omega), fun {y} ey => ?_⟩
    · rw [hd2, cI_same, (k15 16 (by decide)).1, hz.2.1, nI_1]; rfl
    · rw [(k16 15 (by decide)).2.2.2.1, hd1, cA_same, pk_us]
    · rw [(k16 15 (by decide)).2.2.2.1, hd1, cA_same]; exact sto_up (Nat.le_refl _) hz.2.2.1
    · rw [(k16 13 (by decide)).1, (k15 13 (by decide)).1]; exact hz.2.2.2
    · rw [hz.2.1]
      refine ob_e (v := d1) (by rw [hd1]; exact ast_ok tl (by decide)) ?_
      refine ob_e (v := d2) (by rw [hd2]) ey
  rcases hw2 with z | z
  · subst z
    obtain ⟨c2, g1, g2, g3, g4⟩ := set_2 (j := j + 1) l4 ht hdd hβ hP (sl_le sk1 (by omega))
    obtain ⟨c', i1, i2, i3, i4⟩ := push c2 _ _ 12 g2 g3 g1
    refine ⟨c', i1, Or.inl ⟨rfl, ?_, ?_⟩, ?_⟩
    · rw [comA]; exact i2
    · rw [comA]; exact i3
    · rw [← kf_197]
      refine hlook ?_
      rw [if_pos rfl]
      exact ob_e m1 (ob_e (v := (2 : Int32)) rfl (ob_e g4 (i4 rfl)))
  · subst z
    obtain ⟨c2, g1, g2, g3, g4⟩ := set_1 (j := j + 1) l4 ht hdd hβ hP (sl_le sk1 (by omega))
    obtain ⟨c', i1, i2, i3, i4⟩ := push c2 _ _ 13 g2 g3 g1
    refine ⟨c', i1, Or.inr ⟨rfl, ?_, ?_⟩, ?_⟩
    · rw [comO, comA]; exact i2
    · rw [comO, comA]; exact i3
    · rw [← kf_197]
      refine hlook ?_
      rw [if_neg (by decide)]
      exact ob_e m1 (ob_e (v := (1 : Int32)) rfl (ob_e g4 (i4 rfl)))
/-- no more of a test -/
theorem kr_end {a b : Bool} {β : List Nat} (hu : ∀ j, u j < 256) (l4 : l ≤ 400) (h : RQs B2 t u l c x (tau a b ++ β) dd) (n20 : kd u l (rP x) ≠ 20) (n21 : kd u l (rP x) ≠ 21) : ∃ c', Kp [8] c c' ∧ RQs B2 t u l c' x (tau a b ++ β) dd ∧ KR B2 c = G_197 B2 0 [0] [] [] c' := by
  obtain ⟨⟨n, hR, hn⟩, -⟩ := id h.1
  have pp : sk u l (rP x) = rP x := by rw [← hn]; exact sk_sk
  obtain ⟨r1, q1, q2, q3, q4⟩ := f_180p (c := c) (B2 := B2) (w := 6385252) (i := 20) hu l4 (by decide) rfl hR hn
  obtain ⟨r2, v1, v2, v3, v4⟩ := f_180p (c := r1.2) (B2 := B2) (w := 28530) (i := 21) hu l4 (by decide) rfl q3 pp
  rcases q4 with ⟨q4, _⟩ | ⟨_, q5⟩
  · exact absurd q4 n20
  rcases v4 with ⟨v4, _⟩ | ⟨_, v5⟩
  · exact absurd v4 n21
  refine ⟨r2.2, kp_tr q2 v2, RQs_8 (x := x) (kp_tr q2 v2) v3 pp rfl rfl rfl h, ?_⟩
  unfold KR
  refine ob_e q1 (ob_e (v := (0, r2.2)) ?_ ?_)
  · rw [if_pos q5]
    exact ob_mk v1 (in_pos v5 rfl)
  · exact if_pos rfl
end Test
