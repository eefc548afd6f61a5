/-! ===== texts: all pieces, the class ===== -/
section Cut2
variable {c3 c11 : Cl} {rd : Nat} {u : Nat → Nat} {l : Nat}
/-- the pieces so far -/
def Rws (c3 : Cl) (rd : Nat) (u : Nat → Nat) (l N : Nat) (P : Nat → Nat) : Prop := cI c3 5 rd = nI N ∧ ∀ k, k < N → cA c3 2 rd k = nI (kd u l (P k)) ∧ cA c3 3 rd k = nI (nv u l (P k)) ∧ cA c3 4 rd k = nI (P k)
theorem rws_app {N : Nat} {P : Nat → Nat} {p : Nat} (hN : N ≤ 400) (h : Rws c3 rd u l N P) {x y z : Int32} (hx : x = nI (kd u l p)) (hy : y = nI (nv u l p)) (hz : z = nI p) : Rn (F_27 c3 rd x y z) (fun r => Kp [2, 3, 4, 5] c3 r ∧ Oth rd c3 r ∧ Rws r rd u l (N + 1) (un P N p)) := by
  refine rn_m (f_27 hN h.1) (fun r ⟨k, o, e5, e2, e3, e4⟩ => ⟨k, o, e5, fun j hj => ?_⟩)
  rw [e2, e3, e4]
  by_cases w : j = N
  · rw [w, un_s, pk_us, pk_us, pk_us]; exact ⟨hx, hy, hz⟩
  · rw [un_n w, pk_un w, pk_un w, pk_un w]; exact h.2 j (by omega)
theorem gl_24 (hu : ∀ j, u j < 256) (l4 : l ≤ 400) (hT : ∀ j, j < l → cA c11 0 (cR c3 0 rd) j = bI (u j)) (e1 : cI c3 1 rd = nI l) {p : Nat} (hpl : p ≤ l) {Po : Int32 × Cl → Prop} (ks : Rn (G_24 c3 c11 rd 1 [nI p, nI (de u l p), nI (dv u p (min (de u l p - p) 5))] [] []) Po) : ∀ (m q : Nat), q + m = de u l p → p ≤ q → Rn (G_24 c3 c11 rd 0 [nI p, nI q, nI (dv u p (min (q - p) 5))] [] []) Po
  | 0, q, hq, hp => by
    have : q = de u l p := by omega
    subst this
    have ll : de u l p ≤ l := rr_le (f := fun j => isD (u j)) hpl
    rw [G_24, e1]
    by_cases w' : de u l p < l
    · have o : ¬ (48 ≤ u (de u l p) ∧ u (de u l p) ≤ 57) := isD_f.mp (rr_out (f := fun j => isD (u j)) w')
      refine rn_n (nI_ge w' (by omega)) (rn_ld (by omega) (by decide) ?_)
      rw [hT _ w']
      refine rn_i (fun _ => ks) (fun w1 => rn_ld (by omega) (by decide) ?_)
      rw [hT _ w']
      refine rn_p ?_ ks
      have a : ¬ (u (de u l p) < 48 ∨ 128 ≤ u (de u l p)) := fun z => w1 ((bI_lt (hu _) (c := 48) (by decide)).mpr z)
      exact (bI_gt (hu _) (c := 57) (by decide)).mpr (by omega)
    · exact rn_p (nI_le (by omega) (by omega)) ks
  | m + 1, q, hq, hp => by
    have ll : de u l p ≤ l := rr_le (f := fun j => isD (u j)) hpl
    have ql : q < l := by omega
    have i := isD_t.mp (rr_in (f := fun j => isD (u j)) (l := l) (k := p) hp (show q < de u l p by omega))
    have i' : 48 ≤ u q ∧ u q ≤ 57 := i
    rw [G_24, e1]
    refine rn_n (nI_ge ql (by omega)) (rn_ld (by omega) (by decide) ?_)
    rw [hT _ ql]
    refine rn_n (fun z => by have := (bI_lt (hu _) (c := 48) (by decide)).mp z; omega) (rn_ld (by omega) (by decide) ?_)
    rw [hT _ ql]
    refine rn_n (fun z => by have := (bI_gt (hu _) (c := 57) (by decide)).mp z; omega) ?_
    rw [pk_sub hp]
    refine rn_b (P := fun t => t = nI (dv u p (min (q + 1 - p) 5))) ?_ (fun t ht => ?_)
    · by_cases w : 5 ≤ q - p
      · refine rn_p (show nI 5 ≤ nI (q - p) from nI_le w (by omega)) (rn_r ?_)
        rw [show min (q - p) 5 = 5 by omega, show min (q + 1 - p) 5 = 5 by omega]
      · refine rn_n (show ¬ nI 5 ≤ nI (q - p) from nI_ge (by omega) (by decide)) (rn_ld (by omega) (by decide) (rn_r ?_))
        rw [hT _ ql, show min (q - p) 5 = q - p by omega, show min (q + 1 - p) 5 = (q - p) + 1 by omega]
        show nI (dv u p (q - p)) * nI 10 + bI (u q) - nI 48 = nI (dv u p (q - p) * 10 + (u (p + (q - p)) - 48))
        rw [bI_p (by omega), pk_mul, nI_add, pk_sub (by omega), show p + (q - p) = q by omega]
        congr 1
        omega
    · rw [ht, nI_1]
      exact gl_24 hu l4 hT e1 hpl ks m (q + 1) (by omega) (by omega)
theorem gl_25 (hu : ∀ j, u j < 256) (l4 : l ≤ 400) (hT : ∀ j, j < l → cA c11 0 (cR c3 0 rd) j = bI (u j)) (e1 : cI c3 1 rd = nI l) {p : Nat} (hpl : p ≤ l) {Po : Int32 × Cl → Prop} (ks : Rn (G_25 c3 c11 rd 1 [nI p, nI (le u l p)] [] []) Po) : ∀ (m q : Nat), q + m = le u l p → p ≤ q → Rn (G_25 c3 c11 rd 0 [nI p, nI q] [] []) Po
  | 0, q, hq, hp => by
    have : q = le u l p := by omega
    subst this
    have ll : le u l p ≤ l := rr_le (f := fun j => isL (u j)) hpl
    rw [G_25, e1]
    by_cases w : le u l p < l
    · have o : ¬ (97 ≤ u (le u l p) ∧ u (le u l p) ≤ 122) := isL_f.mp (rr_out (f := fun j => isL (u j)) w)
      refine rn_n (nI_ge w (by omega)) (rn_ld (by omega) (by decide) ?_)
      rw [hT _ w]
      refine rn_i (fun _ => ks) (fun w1 => rn_ld (by omega) (by decide) ?_)
      rw [hT _ w]
      refine rn_p ?_ ks
      have a : ¬ (u (le u l p) < 97 ∨ 128 ≤ u (le u l p)) := fun z => w1 ((bI_lt (hu _) (c := 97) (by decide)).mpr z)
      exact (bI_gt (hu _) (c := 122) (by decide)).mpr (by omega)
    · exact rn_p (nI_le (by omega) (by omega)) ks
  | m + 1, q, hq, hp => by
    have ll : le u l p ≤ l := rr_le (f := fun j => isL (u j)) hpl
    have ql : q < l := by omega
    have i' : 97 ≤ u q ∧ u q ≤ 122 := isL_t.mp (rr_in (f := fun j => isL (u j)) (l := l) (k := p) hp (show q < le u l p by omega))
    rw [G_25, e1]
    refine rn_n (nI_ge ql (by omega)) (rn_ld (by omega) (by decide) ?_)
    rw [hT _ ql]
    refine rn_n (fun z => by have := (bI_lt (hu _) (c := 97) (by decide)).mp z; omega) (rn_ld (by omega) (by decide) ?_)
    rw [hT _ ql]
    refine rn_n (fun z => by have := (bI_gt (hu _) (c := 122) (by decide)).mp z; omega) ?_
    rw [nI_1]
    exact gl_25 hu l4 hT e1 hpl ks m (q + 1) (by omega) (by omega)
theorem f_23 {N p : Nat} {P : Nat → Nat} (hu : ∀ j, u j < 256) (l4 : l ≤ 400) (hT : ∀ j, j < l → cA c11 0 (cR c3 0 rd) j = bI (u j)) (e1 : cI c3 1 rd = nI l) (hN : N ≤ 400) (hR : Rws c3 rd u l N P) (hp : p < l) : Rn (F_23 c3 c11 rd (nI p)) (fun r => r.1 = nI (nxt u l p) ∧ Kp [2, 3, 4, 5] c3 r.2 ∧ Oth rd c3 r.2 ∧ Rws r.2 rd u l (N + 1) (un P N p)) := by
  have up := hu p
  have a2 : cA c11 0 (cR c3 0 rd) p = bI (u p) := hT p hp
  unfold F_23
  refine rn_ld (by omega) (by decide) ?_
  rw [a2]
  by_cases wd : isD (u p) = true
  · have id := isD_t.mp wd
    have d0 : p < de u l p := by
      have := rr_s (f := fun j => isD (u j)) hp wd
      have g := rr_ge (f := fun j => isD (u j)) (l := l) (k := p + 1)
      show p < rr (fun j => isD (u j)) l p
      rw [this]; omega
    have dl : de u l p ≤ l := rr_le (f := fun j => isD (u j)) (by omega)
    refine rn_n (fun z => by have := (bI_lt up (c := 48) (by decide)).mp z; omega) (rn_n (fun z => by have := (bI_gt up (c := 57) (by decide)).mp z; omega) ?_)
    refine rn_b (P := fun r => r.1 = nI (nxt u l p) ∧ Kp [2, 3, 4, 5] c3 r.2 ∧ Oth rd c3 r.2 ∧ Rws r.2 rd u l (N + 1) (un P N p)) ?_ (fun r hr => rn_r hr)
    unfold F_24
    have g := gl_24 (c3 := c3) (rd := rd) hu l4 hT e1 (p := p) (by omega) (Po := fun r => r.1 = nI (nxt u l p) ∧ Kp [2, 3, 4, 5] c3 r.2 ∧ Oth rd c3 r.2 ∧ Rws r.2 rd u l (N + 1) (un P N p)) (by
      rw [G_24, pk_sub (by omega)]
      refine rn_b (P := fun t => t = nI (kd u l p)) ?_ (fun t ht => ?_)
      · have ek : kd u l p = if de u l p - p ≤ 5 then 30 else 31 := by unfold kd; rw [if_pos hp, if_pos wd]
        rw [ek]
        by_cases w : de u l p - p ≤ 5
        · rw [if_pos w]; exact rn_p (show nI (de u l p - p) ≤ nI 5 from nI_le w (by decide)) (rn_r rfl)
        · rw [if_neg w]; exact rn_n (show ¬ nI (de u l p - p) ≤ nI 5 from nI_ge (by omega) (by omega)) (rn_r rfl)
      · refine rn_b (rws_app (p := p) hN hR ht (by unfold nv; rw [if_pos ⟨hp, wd⟩]) rfl) (fun r ⟨k, o, h⟩ => rn_r ⟨?_, k, o, h⟩)
        show nI (de u l p) = nI (nxt u l p)
        unfold nxt; rw [if_pos wd]) (de u l p - p) p (by omega) (Nat.le_refl _)
    rw [Nat.sub_self] at g
    exact g
  · have wdf : ¬ (48 ≤ u p ∧ u p ≤ 57) := fun z => wd (isD_t.mpr z)
    have l0 : Rn (G_23 c3 c11 rd 0 [nI p, bI (u p)] [] []) (fun r => r.1 = nI (nxt u l p) ∧ Kp [2, 3, 4, 5] c3 r.2 ∧ Oth rd c3 r.2 ∧ Rws r.2 rd u l (N + 1) (un P N p)) := by
      have nv0 : nv u l p = 0 := by unfold nv; rw [if_neg (fun z => wd z.2)]
      by_cases wl : isL (u p) = true
      · have il := isL_t.mp wl
        have ll : le u l p ≤ l := rr_le (f := fun j => isL (u j)) (by omega)
        have lg : p ≤ le u l p := rr_ge
        rw [G_23]
        refine rn_n (fun z => by have := (bI_lt up (c := 97) (by decide)).mp z; omega) (rn_n (fun z => by have := (bI_gt up (c := 122) (by decide)).mp z; omega) ?_)
        refine rn_b (P := fun r => r.1 = nI (nxt u l p) ∧ Kp [2, 3, 4, 5] c3 r.2 ∧ Oth rd c3 r.2 ∧ Rws r.2 rd u l (N + 1) (un P N p)) ?_ (fun r hr => rn_r hr)
        unfold F_25
        refine gl_25 (c3 := c3) (rd := rd) hu l4 hT e1 (p := p) (by omega) ?_ (le u l p - p) p (by omega) (Nat.le_refl _)
        rw [G_25]
        have f6 := f_26 (c3 := c3) (c11 := c11) (rd := rd) (s := p) (n := le u l p - p) hu (fun j hj => hT j (by omega)) (by omega) (fun i hi => rr_in (f := fun j => isL (u j)) (l := l) (k := p) (by omega) (show p + i < le u l p by omega))
        rw [show p + (le u l p - p) = le u l p by omega] at f6
        refine rn_e f6 (rn_b (rws_app (p := p) hN hR ?_ (by rw [nv0]; rfl) rfl) (fun r ⟨k, o, h⟩ => rn_r ⟨?_, k, o, h⟩))
        · unfold kd; rw [if_pos hp, if_neg wd, if_pos wl]
        · show nI (le u l p) = nI (nxt u l p)
          unfold nxt; rw [if_neg wd, if_pos wl]
      · have wlf : ¬ (97 ≤ u p ∧ u p ≤ 122) := fun z => wl (isL_t.mpr z)
        have l1 : Rn (G_23 c3 c11 rd 1 [nI p, bI (u p)] [] []) (fun r => r.1 = nI (nxt u l p) ∧ Kp [2, 3, 4, 5] c3 r.2 ∧ Oth rd c3 r.2 ∧ Rws r.2 rd u l (N + 1) (un P N p)) := by
          have l3 : ¬ ((u p = 60 ∨ u p = 62) ∧ p + 1 < l ∧ u (p + 1) = 61) → Rn (G_23 c3 c11 rd 3 [nI p, bI (u p)] [] []) (fun r => r.1 = nI (nxt u l p) ∧ Kp [2, 3, 4, 5] c3 r.2 ∧ Oth rd c3 r.2 ∧ Rws r.2 rd u l (N + 1) (un P N p)) := fun z => by
            rw [G_23, bI_255 _ up, show (100 : Int32) + nI (u p) = nI (100 + u p) from nI_add 100 (u p)]
            refine rn_b (rws_app (p := p) hN hR ?_ (by rw [nv0]; rfl) rfl) (fun r ⟨k, o, h⟩ => rn_r ⟨?_, k, o, h⟩)
            · unfold kd; rw [if_pos hp, if_neg wd, if_neg wl, if_neg z]
            · show nI p + 1 = nI (nxt u l p)
              unfold nxt; rw [if_neg wd, if_neg wl, if_neg z, nI_1]
          have l2 : (u p = 60 ∨ u p = 62) → Rn (G_23 c3 c11 rd 2 [nI p, bI (u p)] [] []) (fun r => r.1 = nI (nxt u l p) ∧ Kp [2, 3, 4, 5] c3 r.2 ∧ Oth rd c3 r.2 ∧ Rws r.2 rd u l (N + 1) (un P N p)) := fun z => by
            rw [G_23, e1, nI_1]
            by_cases y : p + 1 < l
            · refine rn_n (nI_ge y (by omega)) (rn_ld (by omega) (by decide) ?_)
              rw [hT _ y]
              by_cases x : u (p + 1) = 61
              · refine rn_p ((bI_eq (hu _) (c := 61) (by decide)).mpr x) (rn_b (P := fun t => t = nI (kd u l p)) ?_ (fun t ht => ?_))
                · have ek : kd u l p = if u p = 60 then 32 else 33 := by unfold kd; rw [if_pos hp, if_neg wd, if_neg wl, if_pos ⟨z, y, x⟩]
                  rw [ek]
                  by_cases v : u p = 60
                  · rw [if_pos v]; exact rn_p ((bI_eq up (c := 60) (by decide)).mpr v) (rn_r rfl)
                  · rw [if_neg v]; exact rn_n (fun q => v ((bI_eq up (c := 60) (by decide)).mp q)) (rn_r rfl)
                · refine rn_b (rws_app (p := p) hN hR ht (by rw [nv0]; rfl) rfl) (fun r ⟨k, o, h⟩ => rn_r ⟨?_, k, o, h⟩)
                  show nI p + nI 2 = nI (nxt u l p)
                  unfold nxt; rw [if_neg wd, if_neg wl, if_pos ⟨z, y, x⟩, nI_add]
              · exact rn_n (fun q => x ((bI_eq (hu _) (c := 61) (by decide)).mp q)) (l3 fun q => x q.2.2)
            · exact rn_p (nI_le (by omega) (by omega)) (l3 fun q => y q.2.1)
          rw [G_23]
          by_cases v : u p = 60
          · exact rn_p ((bI_eq up (c := 60) (by decide)).mpr v) (l2 (Or.inl v))
          · refine rn_n (fun q => v ((bI_eq up (c := 60) (by decide)).mp q)) ?_
            by_cases v2 : u p = 62
            · exact rn_p ((bI_eq up (c := 62) (by decide)).mpr v2) (l2 (Or.inr v2))
            · exact rn_n (fun q => v2 ((bI_eq up (c := 62) (by decide)).mp q)) (l3 fun q => by omega)
        rw [G_23]
        refine rn_i (fun _ => l1) (fun w => rn_p ?_ l1)
        have a : ¬ (u p < 97 ∨ 128 ≤ u p) := fun z => w ((bI_lt up (c := 97) (by decide)).mpr z)
        exact (bI_gt up (c := 122) (by decide)).mpr (by omega)
    refine rn_i (fun _ => l0) (fun w => rn_p ?_ l0)
    have a : ¬ (u p < 48 ∨ 128 ≤ u p) := fun z => w ((bI_lt up (c := 48) (by decide)).mpr z)
    exact (bI_gt up (c := 57) (by decide)).mpr (by omega)
end Cut2
