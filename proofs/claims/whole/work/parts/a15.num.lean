/-! ===== texts: numbers, both sides; behind a clause ===== -/
section Num
variable {c c3 : Cl} {B2 rd : Nat} {u : Nat → Nat} {l n p : Nat}
/-- a number as told stands here -/
def okn (u : Nat → Nat) (l p lo hi : Nat) : Prop := kd u l p = 30 ∧ lo ≤ nv u l p ∧ nv u l p ≤ hi
/-- its fault else -/
def nfl (u : Nat → Nat) (l p : Nat) : Nat := flt p (if kd u l p = 30 ∨ kd u l p = 31 then 1 else 0)
theorem kd_d (hp : p < l) (hd : isD (u p) = true) : (kd u l p = 30 ∧ de u l p - p ≤ 5) ∨ (kd u l p = 31 ∧ 5 < de u l p - p) := by
  unfold kd
  rw [if_pos hp, if_pos hd]
  by_cases w : de u l p - p ≤ 5
  · rw [if_pos w]; exact Or.inl ⟨rfl, w⟩
  · rw [if_neg w]; exact Or.inr ⟨rfl, by omega⟩
theorem kd_nd (h : ¬ (p < l ∧ isD (u p) = true)) : kd u l p ≠ 30 ∧ kd u l p ≠ 31 := by
  unfold kd
  by_cases w : p < l
  · have d : ¬ isD (u p) = true := fun z => h ⟨w, z⟩
    rw [if_pos w, if_neg d]
    by_cases e : isL (u p) = true
    · rw [if_pos e]
      rcases wk_lt (u := u) (p := p) (n := le u l p - p) with z | z <;> omega
    · rw [if_neg e]
      split
      · split <;> omega
      · omega
  · rw [if_neg w]; omega
theorem gl_183 {lo hi p : Nat} (hu : ∀ j, u j < 256) (l4 : l ≤ 400) (hlo : lo < 2 ^ 31) (hhi : hi < 2 ^ 31) (hp : p < l) (hd : isD (u p) = true) : ∀ (m q : Nat) (c' : Cl), q + m = de u l p → p ≤ q → Kp [8] c c' → RP c' B2 u l q → Rn (G_183 B2 0 [nI lo, nI hi, nI p, nI (dv u p (min (q - p) 5))] [] [] c') (fun r => Kp [8, 9, 10] c r.2 ∧ ((okn u l p lo hi ∧ r.1 = 1 ∧ RP r.2 B2 u l (nxt u l p) ∧ cI r.2 9 B2 = cI c 9 B2 ∧ cI r.2 10 B2 = nI (nv u l p)) ∨ (¬ okn u l p lo hi ∧ r.1 = 0 ∧ (cI c 9 B2 = 0 → cI r.2 9 B2 = nI (nfl u l p)))))
  | 0, q, c', hq, hpq, hK, hR => by
    obtain ⟨h0, h1, h8, hl⟩ := id hR
    have : q = de u l p := by omega
    subst this
    have en : nxt u l p = de u l p := by unfold nxt; rw [if_pos hd]
    have ev : nv u l p = dv u p (min (de u l p - p) 5) := by unfold nv; rw [if_pos ⟨hp, hd⟩]
    have vb := nv_lt (u := u) (l := l) (p := p)
    have f8 := f_178 (k := de u l p) hu l4 (by omega) hR
    have nb : ¬ (de u l p < l ∧ isD (u (de u l p)) = true) := fun z => by
      have o : isD (u (de u l p)) = false := rr_out (f := fun j => isD (u j)) (l := l) (k := p) z.1
      rw [o] at z
      exact Bool.noConfusion z.2
    rw [if_neg nb] at f8
    rw [← ev]
    rw [G_183, h8]
    refine rn_e f8 (rn_p rfl (rn_s ?_))
    obtain ⟨d1, hd1⟩ : ∃ d1, d1 = sI c' 10 B2 (nI (nv u l p)) := ⟨_, rfl⟩
    rw [← hd1]
    have k1 : Kp [10] c' d1 := by rw [hd1]; exact kp_I (by decide)
    have kk : Kp [8, 9, 10] c d1 := kp_tr (kp_wd hK (by decide)) (kp_wd k1 (by decide))
    have R1 : RP d1 B2 u l (nxt u l p) := by rw [en]; exact RP_k k1 (by decide) (by decide) (by decide) hR
    have e9 : cI d1 9 B2 = cI c 9 B2 := by rw [(k1 9 (by decide)).1, (hK 9 (by decide)).1]
    have e8 : cI d1 8 B2 = nI (de u l p) := by rw [(k1 8 (by decide)).1]; exact h8
    rw [e8, pk_sub hpq]
    have bad : ¬ okn u l p lo hi → Rn (G_183 B2 1 [nI p] [] [] d1) (fun r => Kp [8, 9, 10] c r.2 ∧ ((okn u l p lo hi ∧ r.1 = 1 ∧ RP r.2 B2 u l (nxt u l p) ∧ cI r.2 9 B2 = cI c 9 B2 ∧ cI r.2 10 B2 = nI (nv u l p)) ∨ (¬ okn u l p lo hi ∧ r.1 = 0 ∧ (cI c 9 B2 = 0 → cI r.2 9 B2 = nI (nfl u l p))))) := fun nk => by
      rw [G_183]
      refine rn_b (f_176 (c := d1) (B2 := B2) (w := 1) (p := p)) (fun r ⟨r1, r2, r3, _⟩ => rn_p r1 (rn_r ⟨kp_tr kk (kp_wd r2 (by decide)), Or.inr ⟨nk, rfl, fun z => ?_⟩⟩))
      show cI r.2 9 B2 = _
      rw [r3 (by rw [e9]; exact z)]
      unfold nfl
      rw [if_pos (by rcases kd_d hp hd with y | y; exact Or.inl y.1; exact Or.inr y.1)]
    rcases kd_d hp hd with ⟨k30, k5⟩ | ⟨k31, k5⟩
    · refine rn_n (show ¬ nI 5 < nI (de u l p - p) from nI_nlt k5 (by decide)) (rn_e (f_170 (nI (nv u l p)) (nI lo) (nI hi)) ?_)
      by_cases w1 : nv u l p < lo
      · rw [if_pos (nI_lt w1 hlo)]
        exact rn_p rfl (bad fun z => by have := z.2.1; omega)
      · rw [if_neg (nI_nlt (by omega) (by omega))]
        by_cases w2 : hi < nv u l p
        · rw [if_pos (nI_lt w2 (by omega))]
          exact rn_p rfl (bad fun z => by have := z.2.2; omega)
        · rw [if_neg (nI_nlt (by omega) hhi)]
          refine rn_n (by decide) ?_
          rw [G_183]
          exact rn_r ⟨kk, Or.inl ⟨⟨k30, by omega, by omega⟩, rfl, R1, e9, by show cI d1 10 B2 = _; rw [hd1, cI_same]⟩⟩
    · exact rn_p (show nI 5 < nI (de u l p - p) from nI_lt k5 (by omega)) (bad fun z => by have := z.1; omega)
  | m + 1, q, c', hq, hpq, hK, hR => by
    obtain ⟨h0, h1, h8, hl⟩ := id hR
    have dl : de u l p ≤ l := rr_le (f := fun j => isD (u j)) (by omega)
    have b : isD (u q) = true := rr_in (f := fun j => isD (u j)) (l := l) (k := p) hpq (show q < de u l p by omega)
    have ib := isD_t.mp b
    have f8 := f_178 (k := q) hu l4 (by omega) hR
    rw [if_pos ⟨by omega, b⟩] at f8
    rw [G_183, h8]
    refine rn_e f8 (rn_n (by decide) ?_)
    rw [pk_sub hpq]
    refine rn_b (P := fun t => t = nI (dv u p (min (q + 1 - p) 5))) ?_ (fun t ht => rn_s ?_)
    · by_cases w : 5 ≤ q - p
      · refine rn_p (show nI 5 ≤ nI (q - p) from nI_le w (by omega)) (rn_r ?_)
        rw [show min (q - p) 5 = 5 by omega, show min (q + 1 - p) 5 = 5 by omega]
      · refine rn_n (show ¬ nI 5 ≤ nI (q - p) from nI_ge (by omega) (by decide)) (rn_ld (by omega) (by decide) (rn_r ?_))
        rw [h0 q (by omega), show min (q - p) 5 = q - p by omega, show min (q + 1 - p) 5 = (q - p) + 1 by omega]
        show nI 10 * nI (dv u p (q - p)) + bI (u q) - nI 48 = nI (dv u p (q - p) * 10 + (u (p + (q - p)) - 48))
        rw [bI_p (by omega), pk_mul, nI_add, pk_sub (by omega), show p + (q - p) = q by omega]
        congr 1
        omega
    · rw [ht]
      exact gl_183 hu l4 hlo hhi hp hd m (q + 1) _ (by omega) (by omega) (kp_tr hK (kp_I (by decide))) (RP_n (kp_I (by decide)) hR (by rw [cI_same, nI_1]) (by omega))
theorem f_183 {lo hi : Nat} (hu : ∀ j, u j < 256) (l4 : l ≤ 400) (hlo : lo < 2 ^ 31) (hhi : hi < 2 ^ 31) (hR : RP c B2 u l n) : Rn (F_183 c B2 (nI lo) (nI hi)) (fun r => Kp [8, 9, 10] c r.2 ∧ ((okn u l (sk u l n) lo hi ∧ r.1 = 1 ∧ RP r.2 B2 u l (nxt u l (sk u l n)) ∧ cI r.2 9 B2 = cI c 9 B2 ∧ cI r.2 10 B2 = nI (nv u l (sk u l n))) ∨ (¬ okn u l (sk u l n) lo hi ∧ r.1 = 0 ∧ (cI c 9 B2 = 0 → cI r.2 9 B2 = nI (nfl u l (sk u l n)))))) := by
  unfold F_183
  refine rn_b (f_177 hu l4 hR) (fun r ⟨k, h, _⟩ => ?_)
  obtain ⟨p, hp⟩ : ∃ p, p = sk u l n := ⟨_, rfl⟩
  rw [← hp] at h ⊢
  obtain ⟨h0, h1, h8, hl⟩ := id h
  have f8 := f_178 (k := p) hu l4 (by omega) h
  rw [h8]
  by_cases w : p < l ∧ isD (u p) = true
  · rw [if_pos w] at f8
    refine rn_e f8 (rn_n (by decide) ?_)
    have g := gl_183 (c := r.2) (B2 := B2) (lo := lo) (hi := hi) hu l4 hlo hhi w.1 w.2 (de u l p - p) p r.2 (by
      have : p ≤ de u l p := rr_ge
      omega) (Nat.le_refl _) (kp_rf _ _) h
    rw [Nat.sub_self] at g
    refine rn_m (x := G_183 B2 0 [nI lo, nI hi, nI p, 0] [] [] r.2) g (fun q ⟨q1, q2⟩ => ⟨kp_tr (kp_wd k (by decide)) q1, ?_⟩)
    rw [(k 9 (by decide)).1] at q2
    exact q2
  · rw [if_neg w] at f8
    have nk := kd_nd w
    refine rn_e f8 (rn_p rfl (rn_b (f_176 (w := 0) (p := p)) (fun q ⟨q1, q2, q3, _⟩ => ?_)))
    rw [q1]
    refine rn_e zb_0 (rn_r ⟨kp_tr (kp_wd k (by decide)) (kp_wd q2 (by decide)), Or.inr ⟨fun z => nk.1 z.1, rfl, fun z => ?_⟩⟩)
    show cI q.2 9 B2 = _
    rw [q3 (by rw [(k 9 (by decide)).1]; exact z)]
    unfold nfl
    rw [if_neg (fun y => by rcases y with y | y; exact nk.1 y; exact nk.2 y)]
/-- a number, by the class -/
theorem flt_ne {w : Nat} (hp : p ≤ 400) (hw : w < 8) : ¬ nI (flt p w) = 0 := nI_ne0 (by unfold flt; omega) (by unfold flt; omega)
theorem gl_34 (h : RD c3 rd u l p) (l4 : l ≤ 400) {w : Nat} (hw : w < 8) : Rn (F_28 c3 rd (nI w) >>= fun r => G_34 rd 2 [] [] [] r) (fun r => Kp [7] c3 r.2 ∧ Oth rd c3 r.2 ∧ RD r.2 rd u l p ∧ r.1 = 0 ∧ (cI c3 7 rd = 0 → cI r.2 7 rd = nI (flt p w)) ∧ (¬ cI c3 7 rd = 0 → cI r.2 7 rd = cI c3 7 rd)) := by
  have pl := RD_le h
  refine rn_b (f_28 (w := w) h) (fun r ⟨k, o, hr, h1, h2⟩ => ?_)
  have nz : ¬ cI r 7 rd = 0 := by
    by_cases y : cI c3 7 rd = 0
    · rw [h1 y]; exact flt_ne (by omega) hw
    · rw [h2 y]; exact y
  rw [G_34]
  exact rn_e (v := (0 : Int32)) (if_neg nz) (rn_e zb_0 (rn_r ⟨k, o, hr, rfl, h1, h2⟩))
theorem f_34 {lo hi : Nat} (hu : ∀ j, u j < 256) (l4 : l ≤ 400) (hlo : lo < 2 ^ 31) (hhi : hi < 2 ^ 31) (h : RD c3 rd u l p) : Rn (F_34 c3 rd (nI lo) (nI hi)) (fun r => Kp [7] c3 r.2 ∧ Oth rd c3 r.2 ∧ RD r.2 rd u l p ∧ ((cI c3 7 rd = 0 ∧ okn u l p lo hi ∧ r.1 = 1 ∧ r.2 = c3) ∨ (cI c3 7 rd = 0 ∧ ¬ okn u l p lo hi ∧ r.1 = 0 ∧ cI r.2 7 rd = nI (nfl u l p)) ∨ (¬ cI c3 7 rd = 0 ∧ r.1 = 0 ∧ cI r.2 7 rd = cI c3 7 rd))) := by
  have kb := kd_b (l := l) (p := p) hu
  have vb := nv_lt (u := u) (l := l) (p := p)
  have pl := RD_le h
  have bad : ∀ {w : Nat}, w < 8 → flt p w = nfl u l p → ¬ okn u l p lo hi → Rn (F_28 c3 rd (nI w) >>= fun r => G_34 rd 2 [] [] [] r) (fun r => Kp [7] c3 r.2 ∧ Oth rd c3 r.2 ∧ RD r.2 rd u l p ∧ ((cI c3 7 rd = 0 ∧ okn u l p lo hi ∧ r.1 = 1 ∧ r.2 = c3) ∨ (cI c3 7 rd = 0 ∧ ¬ okn u l p lo hi ∧ r.1 = 0 ∧ cI r.2 7 rd = nI (nfl u l p)) ∨ (¬ cI c3 7 rd = 0 ∧ r.1 = 0 ∧ cI r.2 7 rd = cI c3 7 rd))) := fun {w} hw e nk => rn_m (gl_34 h l4 hw) (fun r ⟨r1, r2, r3, r4, r5, r6⟩ => ⟨r1, r2, r3, by
    by_cases y : cI c3 7 rd = 0
    · exact Or.inr (Or.inl ⟨y, nk, r4, by rw [r5 y, e]⟩)
    · exact Or.inr (Or.inr ⟨y, r4, r6 y⟩)⟩)
  have n1 : kd u l p = 30 ∨ kd u l p = 31 → flt p 1 = nfl u l p := fun y => by unfold nfl; rw [if_pos y]
  have l1 : kd u l p = 30 ∨ kd u l p = 31 → ¬ okn u l p lo hi → Rn (G_34 rd 1 [] [] [] c3) (fun r => Kp [7] c3 r.2 ∧ Oth rd c3 r.2 ∧ RD r.2 rd u l p ∧ ((cI c3 7 rd = 0 ∧ okn u l p lo hi ∧ r.1 = 1 ∧ r.2 = c3) ∨ (cI c3 7 rd = 0 ∧ ¬ okn u l p lo hi ∧ r.1 = 0 ∧ cI r.2 7 rd = nI (nfl u l p)) ∨ (¬ cI c3 7 rd = 0 ∧ r.1 = 0 ∧ cI r.2 7 rd = cI c3 7 rd))) := fun y nk => by
    rw [G_34]
    exact bad (w := 1) (by decide) (n1 y) nk
  have l0 : kd u l p = 30 ∨ kd u l p = 31 → Rn (G_34 rd 0 [nI lo, nI hi] [] [] c3) (fun r => Kp [7] c3 r.2 ∧ Oth rd c3 r.2 ∧ RD r.2 rd u l p ∧ ((cI c3 7 rd = 0 ∧ okn u l p lo hi ∧ r.1 = 1 ∧ r.2 = c3) ∨ (cI c3 7 rd = 0 ∧ ¬ okn u l p lo hi ∧ r.1 = 0 ∧ cI r.2 7 rd = nI (nfl u l p)) ∨ (¬ cI c3 7 rd = 0 ∧ r.1 = 0 ∧ cI r.2 7 rd = cI c3 7 rd))) := fun y => by
    rw [G_34]
    refine rn_e (a_kd h) ?_
    by_cases w : kd u l p = 31
    · exact rn_p (by rw [w]; rfl) (l1 y fun z => by have := z.1; omega)
    · refine rn_n (fun z => w ((nI_eq (a := kd u l p) (b := 31) (by omega) (by omega)).mp z)) (rn_e (a_nv h) ?_)
      by_cases w1 : nv u l p < lo
      · exact rn_p (nI_lt w1 hlo) (l1 y fun z => by have := z.2.1; omega)
      · refine rn_n (nI_nlt (by omega) (by omega)) (rn_e (a_nv h) ?_)
        by_cases w2 : nv u l p ≤ hi
        · refine rn_p (nI_le w2 hhi) ?_
          rw [G_34]
          by_cases z : cI c3 7 rd = 0
          · exact rn_e (v := (1 : Int32)) (if_pos z) (rn_e zb_1 (rn_r ⟨kp_rf _ _, oth_rf _ _, h, Or.inl ⟨z, ⟨by omega, by omega, w2⟩, rfl, rfl⟩⟩))
          · exact rn_e (v := (0 : Int32)) (if_neg z) (rn_e zb_0 (rn_r ⟨kp_rf _ _, oth_rf _ _, h, Or.inr (Or.inr ⟨z, rfl, rfl⟩)⟩))
        · exact rn_n (nI_ge (by omega) (by omega)) (l1 y fun z => w2 z.2.2)
  unfold F_34
  refine rn_e (a_kd h) ?_
  by_cases w : kd u l p = 30
  · exact rn_p (by rw [w]; rfl) (l0 (Or.inl w))
  · refine rn_n (fun z => w ((nI_eq (a := kd u l p) (b := 30) (by omega) (by omega)).mp z)) (rn_e (a_kd h) ?_)
    by_cases w2 : kd u l p = 31
    · exact rn_p (by rw [w2]; rfl) (l0 (Or.inr w2))
    · refine rn_n (fun z => w2 ((nI_eq (a := kd u l p) (b := 31) (by omega) (by omega)).mp z)) (bad (w := 0) (by decide) ?_ fun z => w z.1)
      unfold nfl
      rw [if_neg (fun z => by rcases z with z | z; exact w z; exact w2 z)]
/-- a number is taken, by the class -/
theorem f_35 {lo hi : Nat} (hu : ∀ j, u j < 256) (l4 : l ≤ 400) (hlo : lo < 2 ^ 31) (hhi : hi < 2 ^ 31) (h : RD c3 rd u l p) : Rn (F_35 c3 rd (nI lo) (nI hi)) (fun r => Kp [6, 7] c3 r.2 ∧ Oth rd c3 r.2 ∧ RD r.2 rd u l (skp u l p) ∧ ((cI c3 7 rd = 0 ∧ okn u l p lo hi ∧ r.1 = nI (nv u l p) ∧ cI r.2 7 rd = 0) ∨ (cI c3 7 rd = 0 ∧ ¬ okn u l p lo hi ∧ r.1 = -1 ∧ cI r.2 7 rd = nI (nfl u l p)) ∨ (¬ cI c3 7 rd = 0 ∧ r.1 = -1 ∧ cI r.2 7 rd = cI c3 7 rd))) := by
  unfold F_35
  refine rn_b (f_34 hu l4 hlo hhi h) (fun r ⟨r1, r2, r3, r4⟩ => ?_)
  rcases r4 with ⟨a, b, e, f⟩ | ⟨a, b, e, f⟩ | ⟨a, e, f⟩
  · rw [e]
    refine rn_e (v := nI (nv u l p)) (in_neg (by decide) (ob_mk (a_nv r3) rfl)) (rn_b (f_31 r3) (fun q ⟨q1, q2, q3⟩ => rn_r ⟨kp_tr (kp_wd r1 (by decide)) (kp_wd q1 (by decide)), oth_tr r2 q2, q3, Or.inl ⟨a, b, rfl, ?_⟩⟩))
    show cI q 7 rd = 0
    rw [(q1 7 (by decide)).1, f]; exact a
  · rw [e]
    refine rn_e (v := (-1 : Int32)) (if_pos rfl) (rn_b (f_31 r3) (fun q ⟨q1, q2, q3⟩ => rn_r ⟨kp_tr (kp_wd r1 (by decide)) (kp_wd q1 (by decide)), oth_tr r2 q2, q3, Or.inr (Or.inl ⟨a, b, rfl, ?_⟩)⟩))
    show cI q 7 rd = _
    rw [(q1 7 (by decide)).1]; exact f
  · rw [e]
    refine rn_e (v := (-1 : Int32)) (if_pos rfl) (rn_b (f_31 r3) (fun q ⟨q1, q2, q3⟩ => rn_r ⟨kp_tr (kp_wd r1 (by decide)) (kp_wd q1 (by decide)), oth_tr r2 q2, q3, Or.inr (Or.inr ⟨a, rfl, ?_⟩)⟩))
    show cI q 7 rd = _
    rw [(q1 7 (by decide)).1]; exact f
/-- behind a clause, by the class -/
theorem f_33 (hu : ∀ j, u j < 256) (l4 : l ≤ 400) (h : RD c3 rd u l p) : Rn (F_33 c3 rd) (fun r => Kp [6, 7] c3 r.2 ∧ Oth rd c3 r.2 ∧ ((cI c3 7 rd = 0 ∧ kd u l p = 159 ∧ r.1 = 1 ∧ RD r.2 rd u l (skp u l p) ∧ cI r.2 7 rd = 0) ∨ (cI c3 7 rd = 0 ∧ kd u l p = 35 ∧ r.1 = 0 ∧ RD r.2 rd u l p ∧ cI r.2 7 rd = 0) ∨ (cI c3 7 rd = 0 ∧ kd u l p ≠ 159 ∧ kd u l p ≠ 35 ∧ r.1 = 0 ∧ RD r.2 rd u l p ∧ cI r.2 7 rd = nI (flt p 0)) ∨ (¬ cI c3 7 rd = 0 ∧ r.1 = 0 ∧ RD r.2 rd u l p ∧ cI r.2 7 rd = cI c3 7 rd))) := by
  have kb := kd_b (l := l) (p := p) hu
  have pl := RD_le h
  have key : ∀ (t : Cl), Kp [7] c3 t → Oth rd c3 t → RD t rd u l p → ((t = c3 ∧ (kd u l p = 159 ∨ kd u l p = 35)) ∨ (kd u l p ≠ 159 ∧ kd u l p ≠ 35 ∧ (cI c3 7 rd = 0 → cI t 7 rd = nI (flt p 0)) ∧ (¬ cI c3 7 rd = 0 → cI t 7 rd = cI c3 7 rd))) → Rn (F_32 t rd 159 >>= fun r4 => zb r4.1 >>= fun z5 => some (z5, r4.2)) (fun r => Kp [6, 7] c3 r.2 ∧ Oth rd c3 r.2 ∧ ((cI c3 7 rd = 0 ∧ kd u l p = 159 ∧ r.1 = 1 ∧ RD r.2 rd u l (skp u l p) ∧ cI r.2 7 rd = 0) ∨ (cI c3 7 rd = 0 ∧ kd u l p = 35 ∧ r.1 = 0 ∧ RD r.2 rd u l p ∧ cI r.2 7 rd = 0) ∨ (cI c3 7 rd = 0 ∧ kd u l p ≠ 159 ∧ kd u l p ≠ 35 ∧ r.1 = 0 ∧ RD r.2 rd u l p ∧ cI r.2 7 rd = nI (flt p 0)) ∨ (¬ cI c3 7 rd = 0 ∧ r.1 = 0 ∧ RD r.2 rd u l p ∧ cI r.2 7 rd = cI c3 7 rd))) := fun t tk to th ht => by
    refine rn_b (f_32 (w := 159) hu (by decide) th) (fun r ⟨r1, r2, r3⟩ => ?_)
    rcases r3 with ⟨a, b, e, f⟩ | ⟨a, e, f⟩
    · rw [e]
      refine rn_e zb_1 (rn_r ⟨kp_tr (kp_wd tk (by decide)) (kp_wd r1 (by decide)), oth_tr to r2, Or.inl ?_⟩)
      rcases ht with ⟨ht, _⟩ | ⟨ht, _⟩
      · subst ht
        exact ⟨a, b, rfl, f, by show cI r.2 7 rd = 0; rw [(r1 7 (by decide)).1]; exact a⟩
      · exact absurd b ht
    · rw [e]
      refine rn_e zb_0 (rn_r ⟨kp_tr (kp_wd tk (by decide)) (kp_wd r1 (by decide)), oth_tr to r2, Or.inr ?_⟩)
      rw [f]
      rcases ht with ⟨ht, hk⟩ | ⟨k1, k2, h1, h2⟩
      · subst ht
        by_cases y : cI t 7 rd = 0
        · rcases hk with hk | hk
          · exact absurd ⟨y, hk⟩ a
          · exact Or.inl ⟨y, hk, rfl, th, y⟩
        · exact Or.inr (Or.inr ⟨y, rfl, th, rfl⟩)
      · by_cases y : cI c3 7 rd = 0
        · exact Or.inr (Or.inl ⟨y, k1, k2, rfl, th, h1 y⟩)
        · exact Or.inr (Or.inr ⟨y, rfl, th, h2 y⟩)
  unfold F_33
  refine rn_e (a_kd h) ?_
  by_cases w : kd u l p = 159
  · exact rn_e (v := c3) (if_pos (by rw [w]; rfl)) (key c3 (kp_rf _ _) (oth_rf _ _) h (Or.inl ⟨rfl, Or.inl w⟩))
  · have w' : ¬ nI (kd u l p) = 159 := fun z => w ((nI_eq (a := kd u l p) (b := 159) (by omega) (by omega)).mp z)
    by_cases w2 : kd u l p = 35
    · exact rn_e (v := c3) (in_neg w' (ob_mk (a_kd h) (in_pos (by rw [w2]; rfl) rfl))) (key c3 (kp_rf _ _) (oth_rf _ _) h (Or.inl ⟨rfl, Or.inr w2⟩))
    · have w2' : ¬ nI (kd u l p) = 35 := fun z => w2 ((nI_eq (a := kd u l p) (b := 35) (by omega) (by omega)).mp z)
      refine rn_b (P := fun t => Kp [7] c3 t ∧ Oth rd c3 t ∧ RD t rd u l p ∧ (cI c3 7 rd = 0 → cI t 7 rd = nI (flt p 0)) ∧ (¬ cI c3 7 rd = 0 → cI t 7 rd = cI c3 7 rd)) (rn_n w' (rn_e (a_kd h) (rn_n w2' (rn_b (f_28 (w := 0) h) (fun t ht => rn_r ht))))) (fun t ⟨t1, t2, t3, t4, t5⟩ => key t t1 t2 t3 (Or.inr ⟨w, w2, t4, t5⟩))
end Num
