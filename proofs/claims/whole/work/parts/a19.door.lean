/-! ===== house: doors ===== -/
section Door
variable {c c1 c2 c3 c12 : Cl} {rd hr ho B2 : Nat} {u : Nat → Nat} {l n p q : Nat} {R D H Q : Nat}
theorem gl_10 {x y : Nat} (r6 : R ≤ 6) (d10 : D ≤ 10) (e1 : cI c1 1 ho = nI D) (y1 : cA c 7 B2 1 = nI D) (hx : x < R) (hy : y < R) (hd : HRd c1 ho (cA c 7 B2) R D) : ∀ m i, i + m = D → ∃ v r, G_10 c1 ho 0 [nI x, nI y, nI i] [] [] = some v ∧ G_201 c B2 0 [nI x, nI y, nI i] [] [] = some r ∧ ((v = 1 ∧ ¬ r < 0) ∨ (v = 0 ∧ r < 0))
  | 0, i, hi => by
    have : i = D := by omega
    subst this
    have a1 : ald (cA c 7 B2) 94 1 = some (nI i) := (ald_ok (i := 1) (by decide) (by decide)).trans (by rw [y1])
    refine ⟨0, -1, ?_, ?_, Or.inr ⟨rfl, by decide⟩⟩
    · rw [G_10, e1]; exact in_pos (nI_le (Nat.le_refl _) (by omega)) rfl
    · rw [G_201]; exact ob_mk a1 (in_pos (nI_le (Nat.le_refl _) (by omega)) rfl)
  | m + 1, i, hi => by
    obtain ⟨v, r, g1, g2, g3⟩ := gl_10 r6 d10 e1 y1 hx hy hd m (i + 1) (by omega)
    obtain ⟨a, b, ha, hb, hab, c5, c6, t0, t1, -⟩ := hd i (by omega)
    have a1 : ald (cA c 7 B2) 94 1 = some (nI D) := (ald_ok (i := 1) (by decide) (by decide)).trans (by rw [y1])
    have ix : (10 : Int32) + (3 * nI i) = nI (10 + 3 * i) := by rw [show (3 : Int32) * nI i = nI (3 * i) from pk_mul 3 i]; exact nI_add 10 _
    have x5 : ald (cA c1 5 ho) 10 (nI i) = some (nI a) := (ald_ok (by omega) (by decide)).trans (by rw [c5])
    have x6 : ald (cA c1 6 ho) 10 (nI i) = some (nI b) := (ald_ok (by omega) (by decide)).trans (by rw [c6])
    have y0' : ald (cA c 7 B2) 94 ((10 : Int32) + (3 * nI i)) = some (nI a) := by rw [ix]; exact (ald_ok (by omega) (by decide)).trans (by rw [t0])
    have y1' : ald (cA c 7 B2) 94 (((10 : Int32) + (3 * nI i)) + 1) = some (nI b) := by rw [ix, nI_1]; exact (ald_ok (by omega) (by decide)).trans (by rw [t1])
    have eq : ∀ {s t : Nat}, s < R → t < R → (nI s = nI t ↔ s = t) := fun {s t} h1 h2 => nI_eq (by omega) (by omega)
    have n0 : ¬ nI D ≤ nI i := nI_ge (by omega) (by omega)
    have l1 : ∃ v r, G_10 c1 ho 1 [nI x, nI y, nI i] [] [] = some v ∧ G_201 c B2 1 [nI x, nI y, nI i, nI a, nI b] [] [] = some r ∧ ((v = 1 ∧ ¬ r < 0) ∨ (v = 0 ∧ r < 0)) := by
      by_cases w : a = y
      · by_cases z : b = x
        · refine ⟨1, nI i, ?_, ?_, Or.inl ⟨rfl, nI_pos (by omega)⟩⟩
          · rw [G_10]; exact ob_mk x5 (in_pos (by rw [w]) (ob_mk x6 (in_pos (by rw [z]) rfl)))
          · rw [G_201]; exact in_pos (by rw [w]) (in_pos (by rw [z]) rfl)
        · refine ⟨v, r, ?_, ?_, g3⟩
          · rw [G_10]; exact ob_mk x5 (in_pos (by rw [w]) (ob_mk x6 (in_neg (fun s => z ((eq hb hx).mp s)) (by rw [nI_1]; exact g1))))
          · rw [G_201]; exact in_pos (by rw [w]) (in_neg (fun s => z ((eq hb hx).mp s)) (by rw [nI_1]; exact g2))
      · refine ⟨v, r, ?_, ?_, g3⟩
        · rw [G_10]; exact ob_mk x5 (in_neg (fun s => w ((eq ha hy).mp s)) (by rw [nI_1]; exact g1))
        · rw [G_201]; exact in_neg (fun s => w ((eq ha hy).mp s)) (by rw [nI_1]; exact g2)
    obtain ⟨v', r', h1, h2, h3⟩ := l1
    by_cases w : a = x
    · by_cases z : b = y
      · refine ⟨1, nI i, ?_, ?_, Or.inl ⟨rfl, nI_pos (by omega)⟩⟩
        · rw [G_10, e1]; exact in_neg n0 (ob_mk x5 (in_pos (by rw [w]) (ob_mk x6 (in_pos (by rw [z]) rfl))))
        · rw [G_201]; exact ob_mk a1 (in_neg n0 (ob_mk y0' (ob_mk y1' (in_pos (by rw [w]) (in_pos (by rw [z]) rfl)))))
      · refine ⟨v', r', ?_, ?_, h3⟩
        · rw [G_10, e1]; exact in_neg n0 (ob_mk x5 (in_pos (by rw [w]) (ob_mk x6 (in_neg (fun s => z ((eq hb hy).mp s)) h1))))
        · rw [G_201]; exact ob_mk a1 (in_neg n0 (ob_mk y0' (ob_mk y1' (in_pos (by rw [w]) (in_neg (fun s => z ((eq hb hy).mp s)) h2)))))
    · refine ⟨v', r', ?_, ?_, h3⟩
      · rw [G_10, e1]; exact in_neg n0 (ob_mk x5 (in_neg (fun s => w ((eq ha hx).mp s)) h1))
      · rw [G_201]; exact ob_mk a1 (in_neg n0 (ob_mk y0' (ob_mk y1' (in_neg (fun s => w ((eq ha hx).mp s)) h2))))
theorem h_door (hu : ∀ j, u j < 256) (l4 : l ≤ 400) (r1 : 1 ≤ R) (r6 : R ≤ 6) (hH : HR c1 ho (cA c12 7 B2) R D H Q (cI c2 1 hr)) (e2 : cR c2 0 hr = rd) (hd : RD c3 rd u l q) (h7 : cI c3 7 rd = 0) (hp : RP c12 B2 u l p) (hq : sk u l (le u l p) = q) (h9 : cI c12 9 B2 = 0) (hD : D < 10) : ∃ rx rm, F_18 c1 c2 c3 hr ho 13 = some rx ∧ F_202 c12 B2 (nI p) = some rm ∧ OH rd hr ho B2 u l c1 c2 c3 c12 R rx rm := by
  have ql := RD_le hd
  obtain ⟨⟨n0, m0'⟩, ⟨n1, m1', -⟩, -⟩ := hH.1
  have em : nI R - 1 = nI (R - 1) := nI_m1 (by omega)
  obtain ⟨rx, x1, x2, x3, x4, x5⟩ := f_35 (lo := 0) (hi := R - 1) hu l4 (by decide) (by omega) hd
  obtain ⟨m0, y1, y2, y3⟩ := f_181 hu l4 hp
  have e79 : cA m0 7 B2 = cA c12 7 B2 := by rw [(y2 7 (by decide)).2.2.2.1]
  obtain ⟨rm, z1, z2, z3⟩ := f_199 (cell := 10 + 3 * D) (lo := 0) (hi := R - 1) hu l4 (by decide) (by omega) (by omega) y3 hq
  have e9 : cI m0 9 B2 = 0 := by rw [(y2 9 (by decide)).1]; exact h9
  have a1 : ald (cA c12 7 B2) 94 1 = some (nI D) := (ald_ok (i := 1) (by decide) (by decide)).trans (by rw [m1'])
  have a1' : ald (cA m0 7 B2) 94 1 = some (nI D) := by rw [e79]; exact a1
  have a0' : ald (cA m0 7 B2) 94 0 = some (nI R) := by rw [e79]; exact (ald_ok (i := 0) (by decide) (by decide)).trans (by rw [m0'])
  have ix : (10 : Int32) + (3 * nI D) = nI (10 + 3 * D) := by rw [show (3 : Int32) * nI D = nI (3 * D) from pk_mul 3 D]; exact nI_add 10 _
  have hx0 : ∀ {v : Cl × Cl × Cl}, ((if (cI rx.2 7 rd) = 0 then F_19 c1 c2 rx.2 hr ho 13 rx.1 >>= fun r22 => some (r22.1, c2, r22.2) else some (c1, c2, rx.2)) : Option (Cl × Cl × Cl)) = some v → F_18 c1 c2 c3 hr ho 13 = some (v.1, v.2.1, v.2.2) := fun {v} e => by
    unfold F_18
    rw [e2, n0, em]
    exact in_neg (by decide) (ob_mk (in_neg (by decide) (in_neg (by decide) (ob_mk x1 e))) rfl)
  have hm0 : ∀ {v : Int32 × Cl} {f : Int32 × Cl → Option (Int32 × Cl)}, (∀ r, f r = (if r.1 = 0 then some (0, r.2) else F_177 r.2 B2 >>= fun r10 => ald (cA r10.2 7 B2) 94 0 >>= fun v11 => F_199 r10.2 B2 (nI (10 + 3 * D) + 1) 0 (v11 - 1) >>= fun r12 => if r12.1 = 0 then some (0, r12.2) else ald (cA r12.2 7 B2) 94 (nI (10 + 3 * D)) >>= fun v14 => ald (cA r12.2 7 B2) 94 (nI (10 + 3 * D) + 1) >>= fun v15 => if v14 = v15 then G_202 r12.2 B2 0 [cI r10.2 8 B2] [] [] else ald (cA r12.2 7 B2) 94 (nI (10 + 3 * D)) >>= fun v17 => ald (cA r12.2 7 B2) 94 (nI (10 + 3 * D) + 1) >>= fun v18 => F_201 r12.2 B2 v17 v18 >>= fun r19 => if r19 < 0 then ast r12.2 7 B2 94 (nI (10 + 3 * D) + 2) 1 >>= fun c12_21 => ald (cA c12_21 7 B2) 94 1 >>= fun v22 => ast c12_21 7 B2 94 1 (v22 + 1) >>= fun c12_23 => some (1, c12_23) else G_202 r12.2 B2 0 [cI r10.2 8 B2] [] [])) → f rm = some v → F_202 c12 B2 (nI p) = some v := fun {v f} hf e => by
    unfold F_202
    refine ob_mk a1 (in_neg (fun z => by have := (nI_eq (a := D) (b := 10) (by omega) (by omega)).mp z; omega) (ob_mk y1 (ob_mk a1' (ob_mk a0' ?_))))
    rw [em, ix, show F_199 m0 B2 (nI (10 + 3 * D)) 0 (nI (R - 1)) = some rm from z1]
    rw [hf] at e
    exact e
  rcases x5 with ⟨_, a, b, e⟩ | ⟨_, a, b, e⟩ | ⟨a, _⟩
  · rcases z3 with ⟨_, f, g, h, i⟩ | ⟨f, _⟩
    · have vx : nv u l q < R := by have := a.2.2; omega
      have ql2 := RD_le x4
      obtain ⟨r10, s1, s2, s3, s4⟩ := f_177 hu l4 g
      rw [okn_sk a] at s3
      have e710 : cA r10.2 7 B2 = cA rm.2 7 B2 := by rw [(s2 7 (by decide)).2.2.2.1]
      have a0'' : ald (cA r10.2 7 B2) 94 0 = some (nI R) := (ald_ok (i := 0) (by decide) (by decide)).trans (by rw [e710, i, pk_un (by omega), e79, m0'])
      have s8 : cI r10.2 8 B2 = nI (skp u l q) := s3.2.2.1
      have sks : sk u l (skp u l q) = skp u l q := by rw [← okn_sk a]; exact sk_sk
      obtain ⟨rx', x1', x2', x3', x4', x5'⟩ := f_34 (lo := 0) (hi := R - 1) hu l4 (by decide) (by omega) x4
      obtain ⟨rm', z1', z2', z3'⟩ := f_199 (cell := 10 + 3 * D + 1) (lo := 0) (hi := R - 1) hu l4 (by decide) (by omega) (by omega) s3 sks
      have z1'' : F_199 r10.2 B2 (nI (10 + 3 * D) + 1) 0 (nI R - 1) = some rm' := by rw [nI_1, em]; exact z1'
      have e9'' : cI r10.2 9 B2 = 0 := by rw [(s2 9 (by decide)).1, h]; exact e9
      have km : Kp [7, 8, 9, 10] c12 rm'.2 := kp_tr (kp_wd y2 (by decide)) (kp_tr (kp_wd z2 (by decide)) (kp_tr (kp_wd s2 (by decide)) (kp_wd z2' (by decide))))
      have fbb : ∀ w, w < 8 → 1 ≤ flt (skp u l q) w ∧ flt (skp u l q) w < 10000 := fun w hw => by unfold flt; omega
      rcases x5' with ⟨_, a', b', e'⟩ | ⟨_, a', b', e'⟩ | ⟨a', _⟩
      · rcases z3' with ⟨_, f', g', h', i'⟩ | ⟨f', _⟩
        · have vy : nv u l (skp u l q) < R := by have := a'.2.2; omega
          have base : ∀ j, j ≠ 10 + 3 * D → j ≠ 10 + 3 * D + 1 → cA rm'.2 7 B2 j = cA c12 7 B2 j := fun j j1 j2 => by rw [i', pk_un j2, e710, i, pk_un j1, e79]
          have b0 : cA rm'.2 7 B2 (10 + 3 * D) = nI (nv u l q) := by rw [i', pk_un (by omega), e710, i, pk_us]
          have b1 : cA rm'.2 7 B2 (10 + 3 * D + 1) = nI (nv u l (skp u l q)) := by rw [i', pk_us]
          have v14 : ald (cA rm'.2 7 B2) 94 (nI (10 + 3 * D)) = some (nI (nv u l q)) := (ald_ok (by omega) (by decide)).trans (by rw [b0])
          have v15 : ald (cA rm'.2 7 B2) 94 (nI (10 + 3 * D) + 1) = some (nI (nv u l (skp u l q))) := by rw [nI_1]; exact (ald_ok (by omega) (by decide)).trans (by rw [b1])
          -- the class takes the door in
          obtain ⟨d1, hd1⟩ : ∃ d1, d1 = sA c1 5 ho (upd (cA c1 5 ho) D (nI (nv u l q))) := ⟨_, rfl⟩
          obtain ⟨d2, hd2⟩ : ∃ d2, d2 = sA d1 6 ho (upd (cA d1 6 ho) D (nI (nv u l (skp u l q)))) := ⟨_, rfl⟩
          have x11 : F_11 c1 ho (nI (nv u l q)) (nI (nv u l (skp u l q))) = some (sI d2 1 ho (nI (D + 1))) := by
            unfold F_11
            rw [n1]
            refine ob_mk (in_neg (show ¬ nI 10 ≤ nI D from nI_ge hD (by decide)) (ob_mk (v := d1) (by rw [hd1]; exact ast_ok hD (by decide)) (ob_mk (v := d2) ?_ (ob_mk rfl rfl)))) ?_
            · rw [show cI d1 1 ho = nI D by rw [hd1]; exact n1, hd2]; exact ast_ok hD (by decide)
            · rw [show cI d2 1 ho = nI D by rw [hd2, hd1]; exact n1, nI_1]
          have kd2 : Kp [1, 5, 6] c1 (sI d2 1 ho (nI (D + 1))) := by rw [hd2, hd1]; exact kp_tr (kp_A (by decide)) (kp_tr (kp_A (by decide)) (kp_I (by decide)))
          have od2 : Oth ho c1 (sI d2 1 ho (nI (D + 1))) := by rw [hd2, hd1]; exact oth_tr oth_A (oth_tr oth_A oth_I)
          have l1 : ∀ c', RD c' rd u l (skp u l q) → ∃ c'', G_20 c1 c2 hr ho 1 [nI (nv u l q)] [] [] c' = some (sI d2 1 ho (nI (D + 1)), c'') ∧ Kp [6] c' c'' ∧ Oth rd c' c'' ∧ RD c'' rd u l (skp u l (skp u l q)) := fun c' hc' => by
            obtain ⟨c'', g1, g2, g3, g4⟩ := f_31 hc'
            refine ⟨c'', ?_, g2, g3, g4⟩
            rw [G_20, e2]
            exact ob_mk (f_30 hc') (ob_mk x11 (ob_mk g1 rfl))
          have bad : ∃ c'', G_20 c1 c2 hr ho 0 [nI (nv u l q)] [] [] rx.2 = some (sI d2 1 ho (nI (D + 1)), c'') ∧ Kp [6, 7] rx.2 c'' ∧ Oth rd rx.2 c'' ∧ RD c'' rd u l (skp u l (skp u l q)) ∧ cI c'' 7 rd = nI (flt (skp u l q) 1) := by
            obtain ⟨t, t1, t2, t3, t4, t5, -⟩ := f_28 (w := 1) x4
            obtain ⟨c'', g1, g2, g3, g4⟩ := l1 t t4
            refine ⟨c'', ?_, kp_tr (kp_wd t2 (by decide)) (kp_wd g2 (by decide)), oth_tr t3 g3, g4, ?_⟩
            · rw [G_20, e2]; exact ob_mk t1 g1
            · rw [(g2 7 (by decide)).1]; exact t5 e
          have mbad : ∃ rmm, G_202 rm'.2 B2 0 [nI (skp u l q)] [] [] = some (0, rmm) ∧ Kp [9] rm'.2 rmm ∧ cI rmm 9 B2 = nI (flt (skp u l q) 1) := by
            obtain ⟨t, t1, t2, t3, t4, -⟩ := f_176 (c := rm'.2) (B2 := B2) (w := 1) (p := skp u l q)
            refine ⟨t.2, ?_, t3, t4 (by rw [h']; exact e9'')⟩
            rw [G_202]
            refine ob_mk t1 ?_
            rw [t2]; rfl
          have fin_bad : F_20 c1 c2 rx.2 hr ho (nI (nv u l q)) = G_20 c1 c2 hr ho 0 [nI (nv u l q)] [] [] rx.2 → (∀ {v}, G_202 rm'.2 B2 0 [nI (skp u l q)] [] [] = some v → F_202 c12 B2 (nI p) = some v) → ∃ rx rm, F_18 c1 c2 c3 hr ho 13 = some rx ∧ F_202 c12 B2 (nI p) = some rm ∧ OH rd hr ho B2 u l c1 c2 c3 c12 R rx rm := fun hX hM => by
            obtain ⟨c'', g1, g2, g3, g4, g5⟩ := bad
            obtain ⟨rmm, t1, t2, t3⟩ := mbad
            have x19 : F_19 c1 c2 rx.2 hr ho 13 rx.1 = some (sI d2 1 ho (nI (D + 1)), c'') := by
              unfold F_19
              rw [b]
              exact in_neg (by decide) (in_pos rfl (ob_mk (hX.trans g1) rfl))
            refine ⟨_, _, hx0 (in_pos e (ob_mk x19 rfl)), hM t1, od2, ⟨kp_rf _ _, oth_rf _ _⟩, ⟨kp_tr x2 g2, oth_tr x3 g3⟩, kp_tr km (kp_wd t2 (by decide)), Or.inr ⟨rfl, flt (skp u l q) 1, skp u l (skp u l q), g5, t3, (fbb 1 (by decide)).1, (fbb 1 (by decide)).2, g4⟩⟩
          have hf20 : ∀ {v : Cl × Cl}, ((if nI (nv u l (skp u l q)) = nI (nv u l q) then G_20 c1 c2 hr ho 0 [nI (nv u l q)] [] [] rx.2 else F_30 rx.2 rd >>= fun r6 => F_10 c1 ho (nI (nv u l q)) r6 >>= fun r7 => if r7 = 0 then G_20 c1 c2 hr ho 1 [nI (nv u l q)] [] [] rx.2 else G_20 c1 c2 hr ho 0 [nI (nv u l q)] [] [] rx.2) : Option (Cl × Cl)) = some v → F_20 c1 c2 rx.2 hr ho (nI (nv u l q)) = some v := fun {v} ev => by
            unfold F_20
            rw [e2, n0, em]
            refine ob_mk x1' (in_neg (by rw [b']; decide) ?_)
            rw [e']
            exact ob_mk (f_30 x4) ev
          have hf20' : ∀ {y : Option (Cl × Cl)}, ((if nI (nv u l (skp u l q)) = nI (nv u l q) then G_20 c1 c2 hr ho 0 [nI (nv u l q)] [] [] rx.2 else F_30 rx.2 rd >>= fun r6 => F_10 c1 ho (nI (nv u l q)) r6 >>= fun r7 => if r7 = 0 then G_20 c1 c2 hr ho 1 [nI (nv u l q)] [] [] rx.2 else G_20 c1 c2 hr ho 0 [nI (nv u l q)] [] [] rx.2) : Option (Cl × Cl)) = y → F_20 c1 c2 rx.2 hr ho (nI (nv u l q)) = y := fun {y} ev => by
            unfold F_20
            rw [e2, n0, em]
            refine ob_e x1' ?_
            rw [if_neg (by rw [b']; decide), e']
            exact ob_e (f_30 x4) ev
          have hm1 : ∀ {v : Int32 × Cl}, ((if nI (nv u l q) = nI (nv u l (skp u l q)) then G_202 rm'.2 B2 0 [nI (skp u l q)] [] [] else F_201 rm'.2 B2 (nI (nv u l q)) (nI (nv u l (skp u l q))) >>= fun r19 => if r19 < 0 then ast rm'.2 7 B2 94 (nI (10 + 3 * D) + 2) 1 >>= fun c12_21 => ald (cA c12_21 7 B2) 94 1 >>= fun v22 => ast c12_21 7 B2 94 1 (v22 + 1) >>= fun c12_23 => some (1, c12_23) else G_202 rm'.2 B2 0 [nI (skp u l q)] [] []) : Option (Int32 × Cl)) = some v → F_202 c12 B2 (nI p) = some v := fun {v} ev => by
            refine hm0 (fun r => rfl) (in_neg (by rw [f]; decide) (ob_mk s1 (ob_mk a0'' (ob_mk z1'' (in_neg (by rw [f']; decide) (ob_mk v14 (ob_mk v15 ?_)))))))
            rw [s8]
            by_cases y : nI (nv u l q) = nI (nv u l (skp u l q))
            · rw [if_pos y] at ev ⊢; exact ev
            · rw [if_neg y] at ev ⊢; exact ob_mk v14 (ob_mk v15 ev)
          by_cases w : nv u l (skp u l q) = nv u l q
          · exact fin_bad (hf20' (if_pos (by rw [w]))) (fun {v} ev => hm1 (in_pos (by rw [w]) ev))
          · have w1 : ¬ nI (nv u l (skp u l q)) = nI (nv u l q) := fun z => w ((nI_eq (by omega) (by omega)).mp z)
            have w2 : ¬ nI (nv u l q) = nI (nv u l (skp u l q)) := fun z => w1 z.symm
            have hd' : HRd c1 ho (cA rm'.2 7 B2) R D := HRd_c (fun _ _ => rfl) (fun _ _ => rfl) (fun j j1 j2 => base j (by omega) (by omega)) hH.2.1
            obtain ⟨v, r, t1, t2, t3⟩ := gl_10 (x := nv u l q) (y := nv u l (skp u l q)) r6 (by omega) n1 (by rw [base 1 (by omega) (by omega)]; exact m1') vx vy hd' D 0 (by omega)
            have t1' : F_10 c1 ho (nI (nv u l q)) (nI (nv u l (skp u l q))) = some v := by unfold F_10; exact t1
            have t2' : F_201 rm'.2 B2 (nI (nv u l q)) (nI (nv u l (skp u l q))) = some r := by unfold F_201; exact t2
            rcases t3 with ⟨v1, r1⟩ | ⟨v0, r0⟩
            · refine fin_bad (hf20' ?_) (fun {v} ev => hm1 (in_neg w2 (ob_mk t2' (in_neg r1 ev))))
              rw [if_neg w1]
              refine ob_e (f_30 x4) (ob_e t1' ?_)
              rw [v1]; rfl
            · obtain ⟨c'', g1, g2, g3, g4⟩ := l1 rx.2 x4
              have x19 : F_19 c1 c2 rx.2 hr ho 13 rx.1 = some (sI d2 1 ho (nI (D + 1)), c'') := by
                unfold F_19
                rw [b]
                exact in_neg (by decide) (in_pos rfl (ob_mk (hf20 (in_neg w1 (ob_mk (f_30 x4) (ob_mk t1' (in_pos v0 g1))))) rfl))
              obtain ⟨w3, hw3⟩ : ∃ w3, w3 = sA rm'.2 7 B2 (upd (cA rm'.2 7 B2) (10 + 3 * D + 2) 1) := ⟨_, rfl⟩
              obtain ⟨w4, hw4⟩ : ∃ w4, w4 = sA w3 7 B2 (upd (cA w3 7 B2) 1 (nI (D + 1))) := ⟨_, rfl⟩
              have t3' : cA w3 7 B2 = upd (cA rm'.2 7 B2) (10 + 3 * D + 2) 1 := by rw [hw3, cA_same]
              have t4' : cA w4 7 B2 = upd (cA w3 7 B2) 1 (nI (D + 1)) := by rw [hw4, cA_same]
              have kw : Kp [7] rm'.2 w4 := by rw [hw4, hw3]; exact kp_tr (kp_A (by decide)) (kp_A (by decide))
              have hm : F_202 c12 B2 (nI p) = some (1, w4) := hm1 (in_neg w2 (ob_mk t2' (in_pos r0 (ob_mk (v := w3) (by rw [show nI (10 + 3 * D) + 2 = nI (10 + 3 * D + 2) from nI_add _ 2, hw3]; exact ast_ok (by omega) (by decide)) (ob_mk (v := nI D) ((ald_ok (i := 1) (by decide) (by decide)).trans (by rw [t3', pk_un (by omega), base 1 (by omega) (by omega), m1'])) (ob_mk (v := w4) (by rw [nI_1, hw4]; exact ast_ok (i := 1) (by decide) (by decide)) rfl))))))
              refine ⟨_, _, hx0 (in_pos e (ob_mk x19 rfl)), hm, od2, ⟨kp_rf _ _, oth_rf _ _⟩, ⟨kp_tr x2 (kp_wd g2 (by decide)), oth_tr x3 g3⟩, kp_tr km (kp_wd kw (by decide)), Or.inl ⟨rfl, skp u l (skp u l q), D + 1, H, Q, ?_, e2, g4, by show cI c'' 7 rd = 0; rw [(g2 7 (by decide)).1]; exact e, ⟨nxt u l (skp u l q), RP_k kw (by decide) (by decide) (by decide) g', okn_sk a'⟩, by show cI w4 9 B2 = 0; rw [(kw 9 (by decide)).1, h']; exact e9''⟩⟩
              refine HR_door (x := nv u l q) (y := nv u l (skp u l q)) kd2 hD vx vy (Ne.symm w) (by rw [cI_same]) ?_ ?_ (fun j j1 j2 j3 j4 => ?_) ?_ ?_ ?_ ?_ hH
              · rw [cA_sI, hd2, cA_ne (show 5 ≠ 6 by decide), hd1, cA_same]
              · rw [cA_sI, hd2, cA_same, hd1, cA_ne (show 6 ≠ 5 by decide)]
              · show cA w4 7 B2 j = _
                rw [t4', pk_un j1, t3', pk_un j4, base j j2 j3]
              · show cA w4 7 B2 1 = _
                rw [t4', pk_us]
              · show cA w4 7 B2 _ = _
                rw [t4', pk_un (by omega), t3', pk_un (by omega), b0]
              · show cA w4 7 B2 _ = _
                rw [t4', pk_un (by omega), t3', pk_un (by omega), b1]
              · show cA w4 7 B2 _ = _
                rw [t4', pk_un (by omega), t3', pk_us]
        · exact absurd a' f'
      · rcases z3' with ⟨f', _⟩ | ⟨_, f', g'⟩
        · exact absurd f' a'
        · have fb := nfl_b (u := u) (l := l) (p := skp u l q) (by omega)
          have x19 : F_19 c1 c2 rx.2 hr ho 13 rx.1 = some (c1, rx'.2) := by
            unfold F_19
            rw [b]
            refine in_neg (by decide) (in_pos rfl (ob_mk (v := (c1, rx'.2)) ?_ rfl))
            unfold F_20
            rw [e2, n0, em]
            exact ob_mk x1' (in_pos b' rfl)
          exact ⟨_, _, hx0 (in_pos e (ob_mk x19 rfl)), hm0 (fun r => rfl) (in_neg (by rw [f]; decide) (ob_mk s1 (ob_mk a0'' (ob_mk z1'' (in_pos f' rfl))))), oth_rf _ _, ⟨kp_rf _ _, oth_rf _ _⟩, ⟨kp_tr x2 (kp_wd x2' (by decide)), oth_tr x3 x3'⟩, km, Or.inr ⟨rfl, nfl u l (skp u l q), skp u l q, e', g' e9'', fb.1, fb.2, x4'⟩⟩
      · exact absurd e a'
    · exact absurd a f
  · rcases z3 with ⟨f, _⟩ | ⟨_, f, g⟩
    · exact absurd f a
    · have fb := nfl_b (u := u) (l := l) (p := q) (by omega)
      have nz : ¬ cI rx.2 7 rd = 0 := by rw [e]; exact nI_ne0 (by omega) (by omega)
      exact ⟨_, _, hx0 (in_neg nz rfl), hm0 (fun r => rfl) (in_pos f rfl), oth_rf _ _, ⟨kp_rf _ _, oth_rf _ _⟩, ⟨x2, x3⟩, kp_tr (kp_wd y2 (by decide)) (kp_wd z2 (by decide)), Or.inr ⟨rfl, nfl u l q, skp u l q, e, g e9, fb.1, fb.2, x4⟩⟩
  · exact absurd h7 a
end Door
