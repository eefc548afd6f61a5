/-! ===== rules: sums, the reference ===== -/
section Refs
variable {c : Cl} {B2 t : Nat} {u : Nat → Nat} {l : Nat} {x : Ps} {j : Nat}
def sgc (ch : Nat) : Prop := ¬ (48 ≤ ch ∧ ch ≤ 57) ∧ ¬ (97 ≤ ch ∧ ch ≤ 122) ∧ ch ≠ 60 ∧ ch ≠ 62 ∧ ch < 256
theorem f_177q (hu : ∀ j, u j < 256) (l4 : l ≤ 400) (h : RQ B2 t u l c x) : Rn (F_177 c B2) (fun s => Kp [8] c s.2 ∧ RQ B2 t u l s.2 x ∧ RP s.2 B2 u l (rP x) ∧ (∀ ch, sgc ch → (s.1 = nI ch ↔ kd u l (rP x) = 100 + ch)) ∧ s.1 = if rP x < l then nI (u (rP x)) else -1) := by
  obtain ⟨⟨n, hR, hn⟩, -⟩ := id h
  refine rn_m (f_177 hu l4 hR) (fun s ⟨a, b, e⟩ => ?_)
  rw [hn] at b e
  have pp : sk u l (rP x) = rP x := by rw [← hn]; exact sk_sk
  refine ⟨a, RQ_8 a b pp rfl rfl rfl h, b, fun ch hc => ?_, e⟩
  rw [kd_ch hc.1 hc.2.1 hc.2.2.1 hc.2.2.2.1, e]
  have ub := hu (rP x)
  by_cases w : rP x < l
  · rw [if_pos w, nI_eq (by omega) (by have := hc.2.2.2.2; omega)]
    exact ⟨fun z => ⟨w, z⟩, fun z => z.2⟩
  · rw [if_neg w]
    refine ⟨fun z => ?_, fun z => absurd z.1 w⟩
    exfalso
    have : ¬ (-1 : Int32) < 0 := by rw [z]; exact nI_pos (by have := hc.2.2.2.2; omega)
    exact this (by decide)
/-- a sign is passed -/
theorem adv_q {s : Cl} {ch : Nat} (hc : sgc ch) (h : RQ B2 t u l s x) (hR : RP s B2 u l (rP x)) (hk : kd u l (rP x) = 100 + ch) : RQ B2 t u l (sI s 8 B2 ((cI s 8 B2) + 1)) (pskx u l x) := by
  obtain ⟨pl, hu⟩ := (kd_ch hc.1 hc.2.1 hc.2.2.1 hc.2.2.2.1).mp hk
  obtain ⟨n1, n2⟩ := nxt_ch (u := u) (l := l) (p := rP x) pl (by rw [hu]; exact hc.1) (by rw [hu]; exact hc.2.1) (by rw [hu]; exact hc.2.2.1) (by rw [hu]; exact hc.2.2.2.1)
  have k8 : Kp [8] s (sI s 8 B2 ((cI s 8 B2) + 1)) := kp_I (by decide)
  exact RQ_8 (x := x) k8 (RP_n k8 hR (by rw [cI_same, hR.2.2.1, nI_1]) (by omega)) n2.symm rfl rfl rfl h
def oc : Option Nat → Nat
  | none => 0
  | some _ => 1
def KT (B2 : Nat) (o : Option Nat) (c : Cl) : Option (Int32 × Cl) := G_191 B2 0 [] [] [] c >>= fun r => if r.1 = 0 then some (0, r.2) else (match o with | none => G_192 B2 0 [] [] [] r.2 | some s => F_185 r.2 B2 (nI (s - 18)) 0 >>= fun r13 => G_192 B2 0 [] [] [] r13)
theorem sg_42 : sgc 42 := by unfold sgc; omega
theorem sg_47 : sgc 47 := by unfold sgc; omega
theorem sg_43 : sgc 43 := by unfold sgc; omega
theorem sg_45 : sgc 45 := by unfold sgc; omega
/-- what waits is put -/
theorem due_q {o : Option Nat} {Po : Int32 × Cl → Prop} (ht : t < 6) (l4 : l ≤ 400) (ho : dok o) (h : RQ B2 t u l c x) (hs : SL l (j + oc o) x) (ks : ∀ c', FQ B2 t [3, 4, 8, 9, 10, 12] c c' → RQ B2 t u l c' (pdue o x) → SL l j (pdue o x) → Rn (G_192 B2 0 [] [] [] c') Po) : Rn (match o with | none => G_192 B2 0 [] [] [] c | some s => F_185 c B2 (nI (s - 18)) 0 >>= fun r13 => G_192 B2 0 [] [] [] r13) Po := by
  rcases ho with e | e | e
  · subst e; exact ks c fq_rf h hs
  · subst e
    have s2 := sl_put (s := 20) (j := j) l4 hs
    exact rn_b (f_185 (s := 2) (v := 0) (sg := 20) ht s2.1 (by decide) h) (fun c' ⟨a, b⟩ => ks c' (fq_wd a (by decide)) b s2.2.1)
  · subst e
    have s2 := sl_put (s := 21) (j := j) l4 hs
    exact rn_b (f_185 (s := 3) (v := 0) (sg := 21) ht s2.1 (by decide) h) (fun c' ⟨a, b⟩ => ks c' (fq_wd a (by decide)) b s2.2.1)
theorem rP_due {o : Option Nat} : rP (pdue o x) = rP x := by
  cases o with
  | none => rfl
  | some s => show rP (pput s x) = _; unfold pput; split <;> rfl
theorem due_sk {o : Option Nat} : pskx u l (pdue o x) = pdue o (pskx u l x) := by
  cases o with
  | none => rfl
  | some s =>
    show pskx u l (pput s x) = pput s (pskx u l x)
    unfold pput
    by_cases w : rK x < 400
    · rw [if_pos w, if_pos (show rK (pskx u l x) < 400 from w)]; rfl
    · rw [if_neg w, if_neg (show ¬ rK (pskx u l x) < 400 from w)]
theorem rP_val {y : Ps} (e : pval u l x = .inr y) : rP y = skp u l (rP x) := by
  unfold pval at e
  split at e
  · cases e
  · split at e
    · split at e
      · cases e
      · cases e
        show skp u l (rP (pput _ (pinc x))) = _
        unfold pput; split <;> rfl
    · cases e
theorem skp_ge (p : Nat) : p ≤ skp u l p := by
  unfold skp
  split
  · rename_i h
    have a := nxt_gt (u := u) h
    have b : nxt u l p ≤ sk u l (nxt u l p) := sk_ge
    omega
  · exact Nat.le_refl _
theorem skp_gt {p : Nat} (h : p < l) : p < skp u l p := by
  unfold skp
  rw [if_pos h]
  have a := nxt_gt (u := u) h
  have b : nxt u l p ≤ sk u l (nxt u l p) := sk_ge
  omega
theorem rP_put {s : Nat} : rP (pput s x) = rP x := by unfold pput; split <;> rfl
theorem sumq_ok (hu : ∀ j, u j < 256) (l4 : l ≤ 400) (ht : t < 6) : ∀ (m : Nat) (o : Option Nat) (x : Ps) (c : Cl) (j : Nat), dok o → 400 ≤ m + rP x → RQ B2 t u l c x → SL l (j + oc o) x → Rn (KT B2 o c) (fun q => FQ B2 t [3, 4, 8, 9, 10, 12] c q.2 ∧ QO B2 t u l (psl u l m o x) q) := fun m => by
  -- one step, from what comes behind it
  have key : ∀ (m : Nat) (o : Option Nat) (x : Ps) (c : Cl) (j : Nat), dok o → 400 ≤ m + rP x → RQ B2 t u l c x → SL l (j + oc o) x → (∀ m', m = m' + 1 → ∀ (o : Option Nat) (x : Ps) (c : Cl) (j : Nat), dok o → 400 ≤ m' + rP x → RQ B2 t u l c x → SL l (j + oc o) x → Rn (KT B2 o c) (fun q => FQ B2 t [3, 4, 8, 9, 10, 12] c q.2 ∧ QO B2 t u l (psl u l m' o x) q)) → Rn (KT B2 o c) (fun q => FQ B2 t [3, 4, 8, 9, 10, 12] c q.2 ∧ QO B2 t u l (psl u l m o x) q) := fun m o x c j ho hm h hs rec => by
    have m0 : kd u l (rP x) ≠ 35 → ∃ m', m = m' + 1 ∧ rP x < l := fun hk => by
      have pl := kd_lt_l (u := u) (x := x) hk
      cases m with
      | zero => omega
      | succ m' => exact ⟨m', rfl, pl⟩
    unfold KT
    rw [G_191]
    -- a sign of a term
    have term : ∀ (ch sg : Nat) (c1 : Cl), ((ch = 42 ∧ sg = 22) ∨ (ch = 47 ∧ sg = 23)) → kd u l (rP x) = 100 + ch → FQ B2 t [3, 4, 8, 9, 10, 12] c c1 → RQ B2 t u l c1 x → RP c1 B2 u l (rP x) → Rn (G_191 B2 1 [] [] [] c1 >>= fun r => if r.1 = 0 then some (0, r.2) else (match o with | none => G_192 B2 0 [] [] [] r.2 | some s => F_185 r.2 B2 (nI (s - 18)) 0 >>= fun r13 => G_192 B2 0 [] [] [] r13)) (fun q => FQ B2 t [3, 4, 8, 9, 10, 12] c q.2 ∧ QO B2 t u l (psl u l m o x) q) := fun ch sg c1 hcs hk f1 Q1 R1 => by
      obtain ⟨m', em, pl⟩ := m0 (by omega)
      have hc : sgc ch := by rcases hcs with ⟨a, _⟩ | ⟨a, _⟩ <;> subst a; exact sg_42; exact sg_47
      obtain ⟨_, uch⟩ := (kd_ch hc.1 hc.2.1 hc.2.2.1 hc.2.2.2.1).mp hk
      obtain ⟨h0, h1, h8, hl⟩ := id R1
      have Q2 := adv_q hc Q1 R1 hk
      have sl1 := sl_sk (u := u) pl hs
      obtain ⟨q, g1, g2, g3⟩ := f_190 (j := j + oc o + 1) hu l4 ht Q2 sl1
      have k8 : FQ B2 t [3, 4, 8, 9, 10, 12] c1 (sI c1 8 B2 ((cI c1 8 B2) + 1)) := fq_k (Ks := [8]) (kp_I (by decide)) (by decide) (by decide)
      have ep : psl u l m o x = pb (pval u l (pskx u l x)) (fun y => psl u l m' o (pput sg y)) := by
        rw [em]
        show (if kd u l (rP x) = 142 then _ else if kd u l (rP x) = 147 then _ else _) = _
        rcases hcs with ⟨a, b⟩ | ⟨a, b⟩
        · subst a b; rw [if_pos hk]
        · subst a b; rw [if_neg (by rw [hk]; decide), if_pos hk]
      have step : ∀ {y : Option (Int32 × Cl)}, (if q.1 = 0 then some ((0 : Int32), q.2) else F_185 q.2 B2 (if sg = 22 then 4 else 5) 0 >>= fun r13 => G_191 B2 0 [] [] [] r13) = y → G_191 B2 1 [] [] [] c1 = y := fun {y} e => by
        rw [G_191]
        refine ob_e (v := bI (u (rP x))) (by rw [h8]; exact (ald_ok (by omega) (by decide)).trans (by rw [h0 _ pl])) (ob_e (v := if sg = 22 then 4 else 5) ?_ (ob_e rfl (ob_e g1 e)))
        rw [uch]
        rcases hcs with ⟨a, b⟩ | ⟨a, b⟩
        · subst a b; rfl
        · subst a b; rfl
      rw [ep]
      cases hv : pval u l (pskx u l x) with
      | inl f =>
        rw [hv] at g3
        rw [step (if_pos g3.1)]
        exact rn_s (rn_p rfl (rn_r ⟨fq_tr f1 (fq_tr k8 g2), ⟨rfl, g3.2⟩⟩))
      | inr y =>
        rw [hv] at g3
        have sly := sl_val sl1 hv l4
        have slp := sl_put (s := sg) l4 sly
        have py := rP_val hv
        obtain ⟨c3, w1, w2, w3⟩ := f_185 (s := if sg = 22 then 4 else 5) (v := 0) (sg := sg) (x := y) ht slp.1 (by
          rcases hcs with ⟨_, b⟩ | ⟨_, b⟩ <;> subst b <;> decide) g3.2
        have w1' : F_185 q.2 B2 (if sg = 22 then 4 else 5) 0 = some c3 := by
          have : (nI (if sg = 22 then 4 else 5) : Int32) = if sg = 22 then 4 else 5 := by split <;> rfl
          rw [this] at w1; exact w1
        rw [step (y := G_191 B2 0 [] [] [] c3) ((if_neg (by rw [g3.1]; decide)).trans (ob_e w1' rfl))]
        have pg := skp_gt (u := u) pl
        have pg2 := skp_ge (u := u) (l := l) (skp u l (rP x))
        have r := rec m' em o (pput sg y) c3 j ho (by rw [rP_put, py]; show 400 ≤ m' + skp u l (skp u l (rP x)); omega) w3 slp.2.1
        unfold KT at r
        exact rn_m r (fun z ⟨z1, z2⟩ => ⟨fq_tr f1 (fq_tr k8 (fq_tr g2 (fq_tr (fq_wd w2 (by decide)) z1))), z2⟩)
    -- a sign of a sum
    have plus : ∀ (ch sg : Nat) (c1 : Cl), ((ch = 43 ∧ sg = 20) ∨ (ch = 45 ∧ sg = 21)) → kd u l (rP x) = 100 + ch → FQ B2 t [3, 4, 8, 9, 10, 12] c c1 → RQ B2 t u l c1 (pdue o x) → RP c1 B2 u l (rP x) → SL l j (pdue o x) → Rn (G_192 B2 1 [] [] [] c1) (fun q => FQ B2 t [3, 4, 8, 9, 10, 12] c q.2 ∧ QO B2 t u l (psl u l m o x) q) := fun ch sg c1 hcs hk f1 Q1 R1 sl0 => by
      obtain ⟨m', em, pl⟩ := m0 (by omega)
      have hc : sgc ch := by rcases hcs with ⟨a, _⟩ | ⟨a, _⟩ <;> subst a; exact sg_43; exact sg_45
      obtain ⟨_, uch⟩ := (kd_ch hc.1 hc.2.1 hc.2.2.1 hc.2.2.2.1).mp hk
      obtain ⟨h0, h1, h8, hl⟩ := id R1
      have pd : rP (pdue o x) = rP x := rP_due
      have Q2 := adv_q hc Q1 (by rw [pd]; exact R1) (by rw [pd]; exact hk)
      have sl1 := sl_sk (u := u) (x := pdue o x) (by rw [pd]; exact pl) sl0
      obtain ⟨q, g1, g2, g3⟩ := f_190 (j := j + 1) hu l4 ht Q2 sl1
      have k8 : FQ B2 t [3, 4, 8, 9, 10, 12] c1 (sI c1 8 B2 ((cI c1 8 B2) + 1)) := fq_k (Ks := [8]) (kp_I (by decide)) (by decide) (by decide)
      rw [due_sk] at g3 sl1
      have ep : psl u l m o x = pb (pval u l (pdue o (pskx u l x))) (psl u l m' (some sg)) := by
        rw [em]
        show (if kd u l (rP x) = 142 then _ else if kd u l (rP x) = 147 then _ else if kd u l (rP x) = 143 then _ else if kd u l (rP x) = 145 then _ else _) = _
        rcases hcs with ⟨a, b⟩ | ⟨a, b⟩
        · subst a b; rw [if_neg (by rw [hk]; decide), if_neg (by rw [hk]; decide), if_pos hk]
        · subst a b; rw [if_neg (by rw [hk]; decide), if_neg (by rw [hk]; decide), if_neg (by rw [hk]; decide), if_pos hk]
      rw [G_192]
      refine rn_e (v := bI (u (rP x))) (by rw [h8]; exact (ald_ok (by omega) (by decide)).trans (by rw [h0 _ pl])) (rn_e (v := nI (sg - 18)) ?_ (rn_s ?_))
      · rw [uch]
        rcases hcs with ⟨a, b⟩ | ⟨a, b⟩
        · subst a b; rfl
        · subst a b; rfl
      unfold F_191
      rw [g1, ep]
      cases hv : pval u l (pdue o (pskx u l x)) with
      | inl f =>
        rw [hv] at g3
        refine rn_e (v := (0, q.2)) (in_pos g3.1 rfl) (rn_p rfl (rn_r ⟨fq_tr f1 (fq_tr k8 g2), ⟨rfl, g3.2⟩⟩))
      | inr y =>
        rw [hv] at g3
        have sly := sl_val sl1 hv l4
        have py := rP_val hv
        have pds : rP (pdue o (pskx u l x)) = skp u l (rP x) := rP_due
        have pg := skp_gt (u := u) pl
        have pg2 := skp_ge (u := u) (l := l) (skp u l (rP x))
        have r := rec m' em (some sg) y q.2 j (by rcases hcs with ⟨_, b⟩ | ⟨_, b⟩ <;> subst b <;> unfold dok <;> simp) (by rw [py, pds]; omega) g3.2 sly
        unfold KT at r
        have e2 : ((some q >>= fun r1 => if r1.1 = 0 then some (0, r1.2) else G_191 B2 0 [] [] [] r1.2) : Option (Int32 × Cl)) = G_191 B2 0 [] [] [] q.2 := by
          show (if q.1 = 0 then some ((0 : Int32), q.2) else G_191 B2 0 [] [] [] q.2) = _
          rw [if_neg (by rw [g3.1]; decide)]
        rw [e2]
        exact rn_m r (fun z ⟨z1, z2⟩ => ⟨fq_tr f1 (fq_tr k8 (fq_tr g2 z1)), z2⟩)
    obtain ⟨s0, a1, a2, a3, a4, a5, -⟩ := f_177q hu l4 h
    have fa : FQ B2 t [3, 4, 8, 9, 10, 12] c s0.2 := fq_k a2 (by decide) (by decide)
    by_cases k42 : kd u l (rP x) = 142
    · have e : (F_177 c B2 >>= fun r3 => if r3.1 = 42 then G_191 B2 1 [] [] [] r3.2 else F_177 r3.2 B2 >>= fun r5 => if r5.1 = 47 then G_191 B2 1 [] [] [] r5.2 else some (1, r5.2)) = G_191 B2 1 [] [] [] s0.2 := ob_e a1 (if_pos ((a5 42 sg_42).mpr k42))
      rw [e]
      exact term 42 22 s0.2 (Or.inl ⟨rfl, rfl⟩) k42 fa a3 a4
    · have n42 : ¬ s0.1 = 42 := fun z => k42 ((a5 42 sg_42).mp z)
      obtain ⟨s1, b1, b2, b3, b4, b5, -⟩ := f_177q hu l4 a3
      have fb : FQ B2 t [3, 4, 8, 9, 10, 12] c s1.2 := fq_tr fa (fq_k b2 (by decide) (by decide))
      by_cases k47 : kd u l (rP x) = 147
      · have e : (F_177 c B2 >>= fun r3 => if r3.1 = 42 then G_191 B2 1 [] [] [] r3.2 else F_177 r3.2 B2 >>= fun r5 => if r5.1 = 47 then G_191 B2 1 [] [] [] r5.2 else some (1, r5.2)) = G_191 B2 1 [] [] [] s1.2 := ob_e a1 ((if_neg n42).trans (ob_e b1 (if_pos ((b5 47 sg_47).mpr k47))))
        rw [e]
        exact term 47 23 s1.2 (Or.inr ⟨rfl, rfl⟩) k47 fb b3 b4
      · have n47 : ¬ s1.1 = 47 := fun z => k47 ((b5 47 sg_47).mp z)
        have e : (F_177 c B2 >>= fun r3 => if r3.1 = 42 then G_191 B2 1 [] [] [] r3.2 else F_177 r3.2 B2 >>= fun r5 => if r5.1 = 47 then G_191 B2 1 [] [] [] r5.2 else some (1, r5.2)) = some ((1 : Int32), s1.2) := ob_e a1 ((if_neg n42).trans (ob_e b1 (if_neg n47)))
        rw [e]
        refine rn_s (rn_n (by show ¬ (1 : Int32) = 0; decide) (due_q ht l4 ho b3 hs (fun c1 f1 Q1 sl0 => ?_)))
        rw [G_192]
        have pd : rP (pdue o x) = rP x := rP_due
        obtain ⟨s2, d1, d2, d3, d4, d5, -⟩ := f_177q hu l4 Q1
        rw [pd] at d4 d5
        have fd : FQ B2 t [3, 4, 8, 9, 10, 12] c s2.2 := fq_tr fb (fq_tr f1 (fq_k d2 (by decide) (by decide)))
        by_cases k43 : kd u l (rP x) = 143
        · exact rn_e d1 (rn_p ((d5 43 sg_43).mpr k43) (plus 43 20 s2.2 (Or.inl ⟨rfl, rfl⟩) k43 fd d3 d4 sl0))
        · refine rn_e d1 (rn_n (fun z => k43 ((d5 43 sg_43).mp z)) ?_)
          obtain ⟨s3, e1, e2, e3, e4, e5, -⟩ := f_177q hu l4 d3
          rw [pd] at e4 e5
          have fe : FQ B2 t [3, 4, 8, 9, 10, 12] c s3.2 := fq_tr fd (fq_k e2 (by decide) (by decide))
          by_cases k45 : kd u l (rP x) = 145
          · exact rn_e e1 (rn_p ((e5 45 sg_45).mpr k45) (plus 45 21 s3.2 (Or.inr ⟨rfl, rfl⟩) k45 fe e3 e4 sl0))
          · refine rn_e e1 (rn_n (fun z => k45 ((e5 45 sg_45).mp z)) (rn_r ⟨fe, ?_⟩))
            have ep : psl u l m o x = .inr (pdue o x) := by
              cases m with
              | zero => rfl
              | succ m =>
                show (if kd u l (rP x) = 142 then _ else if kd u l (rP x) = 147 then _ else if kd u l (rP x) = 143 then _ else if kd u l (rP x) = 145 then _ else _) = _
                rw [if_neg k42, if_neg k47, if_neg k43, if_neg k45]
            rw [ep]
            exact ⟨rfl, e3⟩
  induction m with
  | zero => exact fun o x c j ho hm h hs => key 0 o x c j ho hm h hs (fun m' e => by omega)
  | succ m ih => exact fun o x c j ho hm h hs => key (m + 1) o x c j ho hm h hs (fun m' e => by cases e; exact ih)
theorem f_192 (hu : ∀ j, u j < 256) (l4 : l ≤ 400) (ht : t < 6) (h : RQ B2 t u l c x) (hs : SL l j x) : Rn (F_192 c B2) (fun q => FQ B2 t [3, 4, 8, 9, 10, 12] c q.2 ∧ QO B2 t u l (psum u l x) q) := by
  obtain ⟨q, g1, g2, g3⟩ := f_190 (j := j) hu l4 ht h hs
  unfold F_192 F_191 psum
  rw [g1]
  cases hv : pval u l x with
  | inl f =>
    rw [hv] at g3
    exact rn_e (v := (0, q.2)) (in_pos g3.1 rfl) (rn_p rfl (rn_r ⟨g2, ⟨rfl, g3.2⟩⟩))
  | inr y =>
    rw [hv] at g3
    have r := sumq_ok (B2 := B2) hu l4 ht 400 none y q.2 j (Or.inl rfl) (by omega) g3.2 (sl_val hs hv l4)
    unfold KT at r
    have e2 : ((some q >>= fun r1 => if r1.1 = 0 then some (0, r1.2) else G_191 B2 0 [] [] [] r1.2) : Option (Int32 × Cl)) = G_191 B2 0 [] [] [] q.2 := by
      show (if q.1 = 0 then some ((0 : Int32), q.2) else G_191 B2 0 [] [] [] q.2) = _
      rw [if_neg (by rw [g3.1]; decide)]
    rw [e2]
    exact rn_m r (fun z ⟨z1, z2⟩ => ⟨fq_tr g2 z1, z2⟩)
end Refs
