/-! ===== rules: the reference reads sums ===== -/
/-- a sign of the class, as the reference has it -/
def ren (s : Nat) : Nat := if s < 12 then 1 + 16 * s else if 100 ≤ s then 16 * (s - 100) else rop (s - 20)
def RQ (B2 t : Nat) (u : Nat → Nat) (l : Nat) (c : Cl) (x : Ps) : Prop := (∃ n, RP c B2 u l n ∧ sk u l n = rP x) ∧ cI c 9 B2 = 0 ∧ cI c 11 B2 = nI t ∧ cA c 4 B2 t = nI (rK x) ∧ cI c 12 B2 = nI (rV x) ∧ ∀ i, i < rK x → cA c 3 B2 (400 * t + i) = nI (ren (rC x i))
def FQ (B2 t : Nat) (Ks : List Nat) (c c' : Cl) : Prop := Kp Ks c c' ∧ ∀ j, (j < 400 * t ∨ 400 * t + 400 ≤ j) → cA c' 3 B2 j = cA c 3 B2 j
def QO (B2 t : Nat) (u : Nat → Nat) (l : Nat) (r : Pr) (q : Int32 × Cl) : Prop := match r with | .inl f => q.1 = 0 ∧ cI q.2 9 B2 = nI f | .inr y => q.1 = 1 ∧ RQ B2 t u l q.2 y
/-- there is room for so many more signs -/
def SL (l j : Nat) (x : Ps) : Prop := rK x + j ≤ rP x ∧ rP x ≤ l ∧ rV x ≤ 60
section Refp
variable {c : Cl} {B2 t : Nat} {u : Nat → Nat} {l : Nat} {x : Ps} {j : Nat}
theorem fq_rf {Ks : List Nat} : FQ B2 t Ks c c := ⟨kp_rf _ _, fun _ _ => rfl⟩
theorem fq_tr {Ks : List Nat} {a b d : Cl} (h : FQ B2 t Ks a b) (h' : FQ B2 t Ks b d) : FQ B2 t Ks a d := ⟨kp_tr h.1 h'.1, fun j hj => (h'.2 j hj).trans (h.2 j hj)⟩
theorem fq_wd {Ks Ks' : List Nat} {a b : Cl} (h : FQ B2 t Ks a b) (hk : ∀ k, k ∈ Ks → k ∈ Ks') : FQ B2 t Ks' a b := ⟨kp_wd h.1 hk, h.2⟩
theorem fq_k {Ks Ks' : List Nat} {a b : Cl} (h : Kp Ks a b) (h3 : 3 ∉ Ks) (hk : ∀ k, k ∈ Ks → k ∈ Ks') : FQ B2 t Ks' a b := ⟨kp_wd h hk, fun j _ => by rw [(h 3 h3).2.2.2.1]⟩
/-- only the place has changed -/
theorem RQ_9 {c' : Cl} {n : Nat} {y : Ps} (k : Kp [8, 9, 10] c c') (e9 : cI c' 9 B2 = 0) (hR : RP c' B2 u l n) (hn : sk u l n = rP y) (eK : rK y = rK x) (eV : rV y = rV x) (eC : rC y = rC x) (h : RQ B2 t u l c x) : RQ B2 t u l c' y := by
  obtain ⟨-, h1, h2, h3, h4, h5⟩ := h
  exact ⟨⟨n, hR, hn⟩, e9, by rw [(k 11 (by decide)).1]; exact h2, by rw [(k 4 (by decide)).2.2.2.1, eK]; exact h3, by rw [(k 12 (by decide)).1, eV]; exact h4, fun i hi => by rw [(k 3 (by decide)).2.2.2.1, eC]; exact h5 i (by omega)⟩
theorem RQ_8 {c' : Cl} {n : Nat} {y : Ps} (k : Kp [8] c c') (hR : RP c' B2 u l n) (hn : sk u l n = rP y) (eK : rK y = rK x) (eV : rV y = rV x) (eC : rC y = rC x) (h : RQ B2 t u l c x) : RQ B2 t u l c' y := RQ_9 (kp_wd k (by decide)) (by rw [(k 9 (by decide)).1]; exact h.2.1) hR hn eK eV eC h
theorem sl_sk (hp : rP x < l) (h : SL l j x) : SL l (j + 1) (pskx u l x) := by
  have a := nxt_gt (u := u) hp
  have b := nxt_le (u := u) hp
  have c : nxt u l (rP x) ≤ sk u l (nxt u l (rP x)) := sk_ge
  have d := sk_le (u := u) b
  have e : rP (pskx u l x) = sk u l (nxt u l (rP x)) := by show skp u l (rP x) = _; unfold skp; rw [if_pos hp]
  refine ⟨?_, by rw [e]; exact d, h.2.2⟩
  rw [e]
  have := h.1
  show rK x + (j + 1) ≤ _
  omega
theorem sl_put {s : Nat} (l4 : l ≤ 400) (h : SL l (j + 1) x) : rK x < 400 ∧ SL l j (pput s x) ∧ pput s x = (rP x, rV x, rK x + 1, un (rC x) (rK x) s) := by
  have k : rK x < 400 := by have := h.1; have := h.2.1; omega
  have e : pput s x = (rP x, rV x, rK x + 1, un (rC x) (rK x) s) := by unfold pput; rw [if_pos k]
  refine ⟨k, ?_, e⟩
  rw [e]
  exact ⟨by show rK x + 1 + j ≤ rP x; have := h.1; omega, h.2.1, h.2.2⟩
theorem kd_lt_l (h : kd u l (rP x) ≠ 35) : rP x < l := by
  refine Classical.byContradiction fun z => h ?_
  unfold kd; rw [if_neg z]
theorem sl_val {y : Ps} (h : SL l j x) (e : pval u l x = .inr y) (l4 : l ≤ 400) : SL l j y := by
  unfold pval at e
  split at e
  · cases e
  · split at e
    · rename_i hk
      split at e
      · cases e
      · rename_i hv
        cases e
        have hp : rP x < l := kd_lt_l (u := u) (x := x) (by omega)
        have s1 : SL l (j + 1) (pskx u l (pinc x)) := sl_sk (x := pinc x) hp ⟨h.1, h.2.1, by show rV x + 1 ≤ 60; omega⟩
        have comm : ∀ s, pskx u l (pput s (pinc x)) = pput s (pskx u l (pinc x)) := fun s => by
          unfold pput
          by_cases w : rK (pinc x) < 400
          · rw [if_pos w, if_pos (show rK (pskx u l (pinc x)) < 400 from w)]; rfl
          · rw [if_neg w, if_neg (show ¬ rK (pskx u l (pinc x)) < 400 from w)]
        rw [comm]
        exact (sl_put l4 s1).2.1
    · cases e
/-- signs are put -/
theorem f_185 {s v sg : Nat} (ht : t < 6) (hk : rK x < 400) (hs : nI s + 16 * nI v = nI (ren sg)) (h : RQ B2 t u l c x) : Rn (F_185 c B2 (nI s) (nI v)) (fun c' => FQ B2 t [3, 4] c c' ∧ RQ B2 t u l c' (pput sg x)) := by
  obtain ⟨⟨n, hR, hn⟩, h1, h2, h3, h4, h5⟩ := id h
  have ix : (400 : Int32) * nI t + nI (rK x) = nI (400 * t + rK x) := by rw [show (400 : Int32) * nI t = nI (400 * t) from pk_mul 400 t, nI_add]
  unfold F_185
  rw [h2]
  refine rn_e (v := nI (rK x)) ((ald_ok (by omega) (by decide)).trans (by rw [h3])) ?_
  rw [ix, hs]
  refine rn_st (by omega) (by decide) ?_
  rw [show cI (sA c 3 B2 (upd (cA c 3 B2) (400 * t + rK x) (nI (ren sg)))) 11 B2 = nI t from h2, cA_ne (show 4 ≠ 3 by decide)]
  refine rn_e (v := nI (rK x)) ((ald_ok (by omega) (by decide)).trans (by rw [h3])) (rn_st (by omega) (by decide) (rn_r ⟨⟨kp_tr (kp_A (by decide)) (kp_A (by decide)), fun j hj => ?_⟩, ?_⟩))
  · rw [cA_ne (show 3 ≠ 4 by decide), cA_same, pk_un (by omega)]
  · have kk : Kp [3, 4] c (sA (sA c 3 B2 (upd (cA c 3 B2) (400 * t + rK x) (nI (ren sg)))) 4 B2 (upd (cA (sA c 3 B2 (upd (cA c 3 B2) (400 * t + rK x) (nI (ren sg)))) 4 B2) t (nI (rK x) + 1))) := kp_tr (kp_A (by decide)) (kp_A (by decide))
    have e : pput sg x = (rP x, rV x, rK x + 1, un (rC x) (rK x) sg) := by unfold pput; rw [if_pos hk]
    rw [e]
    refine ⟨⟨n, RP_k kk (by decide) (by decide) (by decide) hR, hn⟩, h1, h2, ?_, h4, fun i hi => ?_⟩
    · rw [cA_same, pk_us, nI_1]; rfl
    · have hi' : i < rK x + 1 := hi
      rw [cA_ne (show 3 ≠ 4 by decide), cA_same]
      show upd (cA c 3 B2) (400 * t + rK x) (nI (ren sg)) (400 * t + i) = nI (ren (un (rC x) (rK x) sg i))
      by_cases w : i = rK x
      · rw [w, pk_us, un_s]
      · rw [pk_un (by omega), un_n w]; exact h5 i (by omega)
/-- one more is made -/
theorem f_186 {p : Nat} (h : RQ B2 t u l c x) (hv : rV x ≤ 60) : Rn (F_186 c B2 (nI p)) (fun q => Kp [9, 12] c q.2 ∧ ((60 ≤ rV x ∧ q.1 = 0 ∧ cI q.2 9 B2 = nI (flt p 3)) ∨ (rV x < 60 ∧ q.1 = 1 ∧ RQ B2 t u l q.2 (pinc x)))) := by
  obtain ⟨⟨n, hR, hn⟩, h1, h2, h3, h4, h5⟩ := id h
  unfold F_186
  rw [h4]
  by_cases w : rV x = 60
  · refine rn_p (by rw [w]; rfl) (rn_b (f_176 (w := 3) (p := p)) (fun q ⟨q1, q2, q3, _⟩ => ?_))
    rw [q1]
    exact rn_e zb_0 (rn_r ⟨kp_wd q2 (by decide), Or.inl ⟨by omega, rfl, q3 h1⟩⟩)
  · refine rn_n (fun z => w ((nI_eq (a := rV x) (b := 60) (by omega) (by omega)).mp z)) (rn_s (rn_r ⟨kp_I (by decide), Or.inr ⟨by omega, rfl, ?_⟩⟩))
    have k12 : Kp [12] c (sI c 12 B2 (nI (rV x) + 1)) := kp_I (by decide)
    refine ⟨⟨n, RP_k k12 (by decide) (by decide) (by decide) hR, hn⟩, ?_, ?_, h3, ?_, h5⟩
    · rw [(k12 9 (by decide)).1]; exact h1
    · rw [(k12 11 (by decide)).1]; exact h2
    · rw [cI_same, nI_1]; rfl
theorem f_184 {n p : Nat} (hu : ∀ j, u j < 256) (l4 : l ≤ 400) (hR : RP c B2 u l n) (hp : sk u l n = p) : Rn (F_184 c B2) (fun r => Kp [8] c r.2 ∧ RP r.2 B2 u l p ∧ r.1 = if kd u l p < 12 then nI (kd u l p) else -1) := by
  have pp : sk u l p = p := by rw [← hp]; exact sk_sk
  have yes : ∀ {c' : Cl} (i : Nat), i < 12 → kd u l p = i → Kp [8] c c' → RP c' B2 u l p → Rn (some (nI i, c')) (fun r => Kp [8] c r.2 ∧ RP r.2 B2 u l p ∧ r.1 = if kd u l p < 12 then nI (kd u l p) else -1) := fun {c'} i hi h k R => rn_r ⟨k, R, by rw [if_pos (by omega), h]⟩
  unfold F_184
  refine rn_b (f_180p (i := 0) hu l4 (by decide) rfl hR hp) (fun r1 ⟨k1, R1, h1⟩ => ?_)
  rcases h1 with ⟨h1, e1⟩ | ⟨h1, e1⟩
  · exact rn_n (by rw [e1]; decide) (yes 0 (by decide) h1 k1 R1)
  refine rn_p e1 (rn_b (f_180p (i := 1) hu l4 (by decide) rfl R1 pp) (fun r2 ⟨k2, R2, h2⟩ => ?_))
  have kk2 := kp_tr k1 k2
  rcases h2 with ⟨h2, e2⟩ | ⟨h2, e2⟩
  · exact rn_n (by rw [e2]; decide) (yes 1 (by decide) h2 kk2 R2)
  refine rn_p e2 (rn_b (f_180p (i := 2) hu l4 (by decide) rfl R2 pp) (fun r3 ⟨k3, R3, h3⟩ => ?_))
  have kk3 := kp_tr kk2 k3
  rcases h3 with ⟨h3, e3⟩ | ⟨h3, e3⟩
  · exact rn_n (by rw [e3]; decide) (yes 2 (by decide) h3 kk3 R3)
  refine rn_p e3 (rn_b (f_180p (i := 3) hu l4 (by decide) rfl R3 pp) (fun r4 ⟨k4, R4, h4⟩ => ?_))
  have kk4 := kp_tr kk3 k4
  rcases h4 with ⟨h4, e4⟩ | ⟨h4, e4⟩
  · exact rn_n (by rw [e4]; decide) (yes 3 (by decide) h4 kk4 R4)
  refine rn_p e4 (rn_b (f_180p (i := 4) hu l4 (by decide) rfl R4 pp) (fun r5 ⟨k5, R5, h5⟩ => ?_))
  have kk5 := kp_tr kk4 k5
  rcases h5 with ⟨h5, e5⟩ | ⟨h5, e5⟩
  · exact rn_n (by rw [e5]; decide) (yes 4 (by decide) h5 kk5 R5)
  refine rn_p e5 (rn_b (f_180p (i := 5) hu l4 (by decide) rfl R5 pp) (fun r6 ⟨k6, R6, h6⟩ => ?_))
  have kk6 := kp_tr kk5 k6
  rcases h6 with ⟨h6, e6⟩ | ⟨h6, e6⟩
  · exact rn_n (by rw [e6]; decide) (yes 5 (by decide) h6 kk6 R6)
  refine rn_p e6 (rn_b (f_180p (i := 6) hu l4 (by decide) rfl R6 pp) (fun r7 ⟨k7, R7, h7⟩ => ?_))
  have kk7 := kp_tr kk6 k7
  rcases h7 with ⟨h7, e7⟩ | ⟨h7, e7⟩
  · exact rn_n (by rw [e7]; decide) (yes 6 (by decide) h7 kk7 R7)
  refine rn_p e7 (rn_b (f_180p (i := 7) hu l4 (by decide) rfl R7 pp) (fun r8 ⟨k8, R8, h8⟩ => ?_))
  have kk8 := kp_tr kk7 k8
  rcases h8 with ⟨h8, e8⟩ | ⟨h8, e8⟩
  · exact rn_n (by rw [e8]; decide) (yes 7 (by decide) h8 kk8 R8)
  refine rn_p e8 (rn_b (f_180p (i := 8) hu l4 (by decide) rfl R8 pp) (fun r9 ⟨k9, R9, h9⟩ => ?_))
  have kk9 := kp_tr kk8 k9
  rcases h9 with ⟨h9, e9⟩ | ⟨h9, e9⟩
  · exact rn_n (by rw [e9]; decide) (yes 8 (by decide) h9 kk9 R9)
  refine rn_p e9 (rn_b (f_180p (i := 9) hu l4 (by decide) rfl R9 pp) (fun r10 ⟨k10, R10, h10⟩ => ?_))
  have kk10 := kp_tr kk9 k10
  rcases h10 with ⟨h10, e10⟩ | ⟨h10, e10⟩
  · exact rn_n (by rw [e10]; decide) (yes 9 (by decide) h10 kk10 R10)
  refine rn_p e10 (rn_b (f_180p (i := 10) hu l4 (by decide) rfl R10 pp) (fun r11 ⟨k11, R11, h11⟩ => ?_))
  have kk11 := kp_tr kk10 k11
  refine rn_b (P := fun r => Kp [8] c r.2 ∧ RP r.2 B2 u l p ∧ r.1 = if kd u l p < 12 then nI (kd u l p) else -1) ?_ (fun t ht => rn_r ht)
  rcases h11 with ⟨h11, e11⟩ | ⟨h11, e11⟩
  · exact rn_n (by rw [e11]; decide) (yes 10 (by decide) h11 kk11 R11)
  refine rn_p e11 (rn_b (f_180p (i := 11) hu l4 (by decide) rfl R11 pp) (fun r12 ⟨k12, R12, h12⟩ => ?_))
  have kk12 := kp_tr kk11 k12
  rcases h12 with ⟨h12, e12⟩ | ⟨h12, e12⟩
  · exact rn_n (by rw [e12]; decide) (yes 11 (by decide) h12 kk12 R12)
  · exact rn_p e12 (rn_r ⟨kk12, R12, by rw [if_neg (by omega)]⟩)
/-- a value -/
theorem f_190 (hu : ∀ j, u j < 256) (l4 : l ≤ 400) (ht : t < 6) (h : RQ B2 t u l c x) (hs : SL l j x) : Rn (F_190 c B2) (fun q => FQ B2 t [3, 4, 8, 9, 10, 12] c q.2 ∧ QO B2 t u l (pval u l x) q) := by
  obtain ⟨⟨n, hR, hn⟩, h1, h2, h3, h4, h5⟩ := id h
  have kb := kd_b (l := l) (p := rP x) hu
  have hv60 := hs.2.2
  have comm : ∀ s, pskx u l (pput s (pinc x)) = pput s (pskx u l (pinc x)) := fun s => by
    unfold pput
    by_cases w : rK (pinc x) < 400
    · rw [if_pos w, if_pos (show rK (pskx u l (pinc x)) < 400 from w)]; rfl
    · rw [if_neg w, if_neg (show ¬ rK (pskx u l (pinc x)) < 400 from w)]
  unfold F_190
  refine rn_b (f_177 hu l4 hR) (fun s0 ⟨s1, s2, _⟩ => ?_)
  rw [hn] at s2
  have pp : sk u l (rP x) = rP x := by rw [← hn]; exact sk_sk
  have Q0 : RQ B2 t u l s0.2 x := RQ_8 s1 s2 pp rfl rfl rfl h
  have f8 := f_178 (k := rP x) hu l4 (by have := hs.2.1; omega) s2
  rw [s2.2.2.1]
  by_cases w : rP x < l ∧ isD (u (rP x)) = true
  · rw [if_pos w] at f8
    have sl1 : rV x < 60 → SL l (j + 1) (pskx u l (pinc x)) := fun hv => sl_sk (x := pinc x) w.1 ⟨hs.1, hs.2.1, by show rV x + 1 ≤ 60; omega⟩
    refine rn_e f8 (rn_n (by decide) (rn_b (f_183 (lo := 0) (hi := 99999) hu l4 (by decide) (by decide) s2) (fun q ⟨k, hq⟩ => ?_)))
    rw [pp] at hq
    have vb := nv_lt (u := u) (l := l) (p := rP x)
    have fr1 : FQ B2 t [3, 4, 8, 9, 10, 12] c q.2 := fq_tr (fq_k s1 (by decide) (by decide)) (fq_k k (by decide) (by decide))
    rcases hq with ⟨a, b, e, f, g⟩ | ⟨a, b, e⟩
    · refine rn_n (by rw [b]; decide) ?_
      have k30 := a.1
      have e9 : cI q.2 9 B2 = 0 := by rw [f]; exact Q0.2.1
      have Q1 : RQ B2 t u l q.2 (pskx u l x) := RQ_9 (x := x) k e9 e (by show sk u l (nxt u l (rP x)) = skp u l (rP x); exact okn_sk a) rfl rfl rfl Q0
      refine rn_b (f_186 (p := rP x) Q1 hv60) (fun q2 ⟨k2, hq2⟩ => ?_)
      have hq2 : (60 ≤ rV x ∧ q2.1 = 0 ∧ cI q2.2 9 B2 = nI (flt (rP x) 3)) ∨ (rV x < 60 ∧ q2.1 = 1 ∧ RQ B2 t u l q2.2 (pinc (pskx u l x))) := hq2
      have fr2 : FQ B2 t [3, 4, 8, 9, 10, 12] c q2.2 := fq_tr fr1 (fq_k k2 (by decide) (by decide))
      rcases hq2 with ⟨v1, v2, v3⟩ | ⟨v1, v2, v3⟩
      · refine rn_p v2 (rn_r ⟨fr2, ?_⟩)
        have ep : pval u l x = .inl (flt (rP x) 3) := by
          unfold pval; rw [if_neg (by omega), if_pos (Or.inr k30), if_pos v1]
        rw [ep]; exact ⟨rfl, v3⟩
      · refine rn_n (by rw [v2]; decide) ?_
        have sl2 := sl_put (s := 100 + nv u l (rP x)) l4 (sl1 v1)
        have e10 : cI q2.2 10 B2 = nI (nv u l (rP x)) := by rw [(k2 10 (by decide)).1]; exact g
        rw [e10]
        refine rn_b (f_185 (s := 0) (v := nv u l (rP x)) (sg := 100 + nv u l (rP x)) (x := pinc (pskx u l x)) ht sl2.1 ?_ v3) (fun c' ⟨k3, h3'⟩ => rn_r ⟨fq_tr fr2 (fq_wd k3 (by decide)), ?_⟩)
        · rw [show (16 : Int32) * nI (nv u l (rP x)) = nI (16 * nv u l (rP x)) from pk_mul 16 _, nI_add]
          congr 1
          unfold ren
          rw [if_neg (by omega), if_pos (by omega)]
          omega
        · have ep : pval u l x = .inr (pskx u l (pput (100 + nv u l (rP x)) (pinc x))) := by
            unfold pval; rw [if_neg (by omega), if_pos (Or.inr k30), if_neg (by omega), if_pos k30]
          rw [ep, comm]
          exact ⟨rfl, h3'⟩
    · refine rn_p b (rn_r ⟨fr1, ?_⟩)
      have k31 : kd u l (rP x) = 31 := by
        rcases kd_d w.1 w.2 with z | z
        · exact absurd ⟨z.1, Nat.zero_le _, vb⟩ a
        · exact z.1
      have ep : pval u l x = .inl (flt (rP x) 1) := by unfold pval; rw [if_pos k31]
      rw [ep]
      refine ⟨rfl, ?_⟩
      show cI q.2 9 B2 = _
      rw [e Q0.2.1]
      unfold nfl
      rw [if_pos (Or.inr k31)]
  · rw [if_neg w] at f8
    have nk := kd_nd w
    refine rn_e f8 (rn_p rfl (rn_b (f_184 hu l4 s2 pp) (fun q ⟨k, hq, e⟩ => ?_)))
    have fr1 : FQ B2 t [3, 4, 8, 9, 10, 12] c q.2 := fq_tr (fq_k s1 (by decide) (by decide)) (fq_k k (by decide) (by decide))
    have Q1 : RQ B2 t u l q.2 x := RQ_8 k hq pp rfl rfl rfl Q0
    rw [e]
    by_cases k12 : kd u l (rP x) < 12
    · rw [if_pos k12]
      obtain ⟨pl, hle, hle2⟩ := kd_wl (p := rP x) hu (show kd u l (rP x) < 23 by omega) rfl
      have sl1 : rV x < 60 → SL l (j + 1) (pskx u l (pinc x)) := fun hv => sl_sk (x := pinc x) pl ⟨hs.1, hs.2.1, by show rV x + 1 ≤ 60; omega⟩
      refine rn_p (nI_pos' (by omega)) (rn_b (f_186 (p := rP x) Q1 hv60) (fun q2 ⟨k2, hq2⟩ => ?_))
      have fr2 : FQ B2 t [3, 4, 8, 9, 10, 12] c q2.2 := fq_tr fr1 (fq_k k2 (by decide) (by decide))
      rcases hq2 with ⟨v1, v2, v3⟩ | ⟨v1, v2, v3⟩
      · refine rn_p v2 (rn_r ⟨fr2, ?_⟩)
        have ep : pval u l x = .inl (flt (rP x) 3) := by
          unfold pval; rw [if_neg (by omega), if_pos (Or.inl k12), if_pos v1]
        rw [ep]; exact ⟨rfl, v3⟩
      · refine rn_n (by rw [v2]; decide) (rn_b (f_181 hu l4 (RP_k k2 (by decide) (by decide) (by decide) hq)) (fun q3 ⟨k3, hq3⟩ => ?_))
        have Q3 : RQ B2 t u l q3 (pinc (pskx u l x)) := RQ_8 (x := pinc x) k3 hq3 hle2.symm rfl rfl rfl v3
        have sl2 := sl_put (s := kd u l (rP x)) l4 (sl1 v1)
        refine rn_b (f_185 (s := 1) (v := kd u l (rP x)) (sg := kd u l (rP x)) (x := pinc (pskx u l x)) ht sl2.1 ?_ Q3) (fun c' ⟨k4, h4'⟩ => rn_r ⟨fq_tr fr2 (fq_tr (fq_k k3 (by decide) (by decide)) (fq_wd k4 (by decide))), ?_⟩)
        · rw [show (16 : Int32) * nI (kd u l (rP x)) = nI (16 * kd u l (rP x)) from pk_mul 16 _, nI_add]
          congr 1
          unfold ren
          rw [if_pos k12]
        · have ep : pval u l x = .inr (pskx u l (pput (kd u l (rP x)) (pinc x))) := by
            unfold pval; rw [if_neg (by omega), if_pos (Or.inl k12), if_neg (by omega), if_neg nk.1]
          rw [ep, comm]
          exact ⟨rfl, h4'⟩
    · rw [if_neg k12]
      refine rn_n (by decide) (rn_b (f_176 (w := 0) (p := rP x)) (fun q2 ⟨q21, q22, q23, _⟩ => ?_))
      rw [q21]
      refine rn_e zb_0 (rn_r ⟨fq_tr fr1 (fq_k q22 (by decide) (by decide)), ?_⟩)
      have ep : pval u l x = .inl (flt (rP x) 0) := by unfold pval; rw [if_neg nk.2, if_neg (by omega)]
      rw [ep]
      exact ⟨rfl, q23 Q1.2.1⟩
end Refp
