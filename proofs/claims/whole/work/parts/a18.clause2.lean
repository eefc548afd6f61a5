/-! ===== house: clauses of rooms, heads, doors ===== -/
section Clause2
variable {c c1 c2 c3 c12 : Cl} {rd hr ho B2 : Nat} {u : Nat → Nat} {l n p q : Nat} {R D H Q : Nat}
/-- a room, and then a number: delay, most -/
theorem h_room {w v0 lo hi s : Nat} (hw : (w = 14 ∧ v0 = 76 ∧ lo = 0 ∧ hi = 5 ∧ s = 9) ∨ (w = 15 ∧ v0 = 82 ∧ lo = 1 ∧ hi = 99 ∧ s = 10)) (hu : ∀ j, u j < 256) (l4 : l ≤ 400) (r1 : 1 ≤ R) (r6 : R ≤ 6) (hH : HR c1 ho (cA c12 7 B2) R D H Q (cI c2 1 hr)) (e2 : cR c2 0 hr = rd) (hd : RD c3 rd u l q) (h7 : cI c3 7 rd = 0) (hp : RP c12 B2 u l p) (hq : sk u l (le u l p) = q) (h9 : cI c12 9 B2 = 0) : ∃ rx rm, F_18 c1 c2 c3 hr ho (nI w) = some rx ∧ F_204 c12 B2 (nI v0) (nI lo) (nI hi) = some rm ∧ OH rd hr ho B2 u l c1 c2 c3 c12 R rx rm := by
  have ql := RD_le hd
  obtain ⟨⟨n0, m0'⟩, -⟩ := hH.1
  have wr : w < 20 ∧ w ≠ 12 ∧ w ≠ 17 ∧ w ≠ 16 ∧ w ≠ 0 ∧ w ≠ 13 ∧ hi < 100 ∧ lo < 2 ∧ v0 < 90 ∧ v0 + 6 ≤ 94 := by omega
  have em : nI R - 1 = nI (R - 1) := nI_m1 (by omega)
  have nw : ∀ k, k < 100 → w ≠ k → ¬ nI w = nI k := fun k hk a z => a ((nI_eq (by omega) (by omega)).mp z)
  obtain ⟨rx, x1, x2, x3, x4, x5⟩ := f_35 (lo := 0) (hi := R - 1) hu l4 (by decide) (by omega) hd
  obtain ⟨m0, y1, y2, y3⟩ := f_181 hu l4 hp
  have e79 : cA m0 7 B2 = cA c12 7 B2 := by rw [(y2 7 (by decide)).2.2.2.1]
  obtain ⟨rm, z1, z2, z3⟩ := f_183 (lo := 0) (hi := R - 1) hu l4 (by decide) (by omega) y3
  rw [hq] at z3
  have e9 : cI m0 9 B2 = 0 := by rw [(y2 9 (by decide)).1]; exact h9
  have a0' : ald (cA m0 7 B2) 94 0 = some (nI R) := by rw [e79]; exact (ald_ok (i := 0) (by decide) (by decide)).trans (by rw [m0'])
  have hx0 : ∀ {v : Cl × Cl × Cl}, ((if (cI rx.2 7 rd) = 0 then F_19 c1 c2 rx.2 hr ho (nI w) rx.1 >>= fun r22 => some (r22.1, c2, r22.2) else some (c1, c2, rx.2)) : Option (Cl × Cl × Cl)) = some v → F_18 c1 c2 c3 hr ho (nI w) = some (v.1, v.2.1, v.2.2) := fun {v} e => by
    unfold F_18
    rw [e2, n0, em]
    exact in_neg (nw 12 (by decide) wr.2.1) (ob_mk (in_neg (nw 17 (by decide) wr.2.2.1) (in_neg (nw 16 (by decide) wr.2.2.2.1) (ob_mk x1 e))) rfl)
  have hm0 : ∀ {v : Int32 × Cl}, ((if rm.1 = 0 then some (0, rm.2) else F_199 rm.2 B2 (nI v0 + (cI rm.2 10 B2)) (nI lo) (nI hi) >>= fun r5 => zb r5.1 >>= fun z6 => some (z6, r5.2)) : Option (Int32 × Cl)) = some v → F_204 c12 B2 (nI v0) (nI lo) (nI hi) = some v := fun {v} e => by
    unfold F_204
    refine ob_mk y1 (ob_mk a0' ?_)
    rw [em]
    exact ob_mk z1 e
  rcases x5 with ⟨_, a, b, e⟩ | ⟨_, a, b, e⟩ | ⟨a, _⟩
  · rcases z3 with ⟨_, f, g, h, i⟩ | ⟨f, _⟩
    · have vx : nv u l q < R := by have := a.2.2; omega
      have ql2 := RD_le x4
      obtain ⟨rx', x1', x2', x3', x4', x5'⟩ := f_35 (lo := lo) (hi := hi) hu l4 (by omega) (by omega) x4
      obtain ⟨rm', z1', z2', z3'⟩ := f_199 (cell := v0 + nv u l q) (lo := lo) (hi := hi) hu l4 (by omega) (by omega) (by omega) g (okn_sk a)
      have km : Kp [7, 8, 9, 10] c12 rm'.2 := kp_tr (kp_wd y2 (by decide)) (kp_tr (kp_wd z2 (by decide)) (kp_wd z2' (by decide)))
      have hm : F_204 c12 B2 (nI v0) (nI lo) (nI hi) = some (rm'.1, rm'.2) := hm0 (in_neg (by rw [f]; decide) (by
        rw [i, nI_add]
        refine ob_mk z1' (ob_mk (v := rm'.1) ?_ rfl)
        rcases z3' with ⟨_, y, _⟩ | ⟨_, y, _⟩ <;> rw [y] <;> rfl))
      have x19 : F_19 c1 c2 rx.2 hr ho (nI w) rx.1 = some (sA c1 s ho (upd (cA c1 s ho) (nv u l q) rx'.1), rx'.2) := by
        unfold F_19
        rw [e2, b]
        refine in_neg (nw 0 (by decide) (by omega)) (in_neg (nw 13 (by decide) (by omega)) ?_)
        rcases hw with ⟨h1, h2, h3, h4, h5⟩ | ⟨h1, h2, h3, h4, h5⟩
        · subst h1 h3 h4 h5
          exact in_pos rfl (ob_mk x1' (ob_mk (ast_ok (by omega) (by decide)) rfl))
        · subst h1 h3 h4 h5
          exact in_neg (nw 14 (by decide) (by decide)) (ob_mk x1' (ob_mk (ast_ok (by omega) (by decide)) rfl))
      refine ⟨_, _, hx0 (in_pos e (ob_mk x19 rfl)), hm, oth_A, ⟨kp_rf _ _, oth_rf _ _⟩, ⟨kp_tr x2 x2', oth_tr x3 x3'⟩, km, ?_⟩
      rcases x5' with ⟨_, a', b', e'⟩ | ⟨_, a', b', e'⟩ | ⟨a', _⟩
      · rcases z3' with ⟨_, f', g', h', i'⟩ | ⟨f', _⟩
        · refine Or.inl ⟨f', skp u l (skp u l q), D, H, Q, ?_, e2, x4', e', ⟨nxt u l (skp u l q), g', okn_sk a'⟩, by show cI rm'.2 9 B2 = 0; rw [h', h]; exact e9⟩
          refine HR_room (x := nv u l q) (v := nv u l (skp u l q)) (s := s) (w0 := v0 + nv u l q) ?_ (kp_A (by simp)) (by omega) (by rw [cA_same, b']) ?_ (fun j hj => ?_) ?_ hH
          · have := a'.2.1
            have := a'.2.2
            omega
          · rcases hw with ⟨h1, h2, h3, h4, h5⟩ | ⟨h1, h2, h3, h4, h5⟩
            · subst h5 h2; rw [if_pos rfl]
            · subst h5 h2; rw [if_neg (by decide)]
          · show cA rm'.2 7 B2 j = _
            rw [i', pk_un hj, (z2 7 (by decide)).2.2.2.1, e79]
          · show cA rm'.2 7 B2 _ = _
            rw [i', pk_us]
        · exact absurd a' f'
      · rcases z3' with ⟨f', _⟩ | ⟨_, f', g'⟩
        · exact absurd f' a'
        · have fb := nfl_b (u := u) (l := l) (p := skp u l q) (by omega)
          exact Or.inr ⟨f', nfl u l (skp u l q), skp u l (skp u l q), e', g' (by rw [h]; exact e9), fb.1, fb.2, x4'⟩
      · exact absurd e a'
    · exact absurd a f
  · rcases z3 with ⟨f, _⟩ | ⟨_, f, g⟩
    · exact absurd f a
    · have fb := nfl_b (u := u) (l := l) (p := q) (by omega)
      have nz : ¬ cI rx.2 7 rd = 0 := by rw [e]; exact nI_ne0 (by omega) (by omega)
      exact ⟨_, _, hx0 (in_neg nz rfl), hm0 (in_pos f rfl), oth_rf _ _, ⟨kp_rf _ _, oth_rf _ _⟩, ⟨x2, x3⟩, kp_tr (kp_wd y2 (by decide)) (kp_wd z2 (by decide)), Or.inr ⟨rfl, nfl u l q, skp u l q, e, g e9, fb.1, fb.2, x4⟩⟩
  · exact absurd h7 a
/-- a head -/
theorem h_head (hu : ∀ j, u j < 256) (l4 : l ≤ 400) (r1 : 1 ≤ R) (r6 : R ≤ 6) (hH : HR c1 ho (cA c12 7 B2) R D H Q (cI c2 1 hr)) (e2 : cR c2 0 hr = rd) (hd : RD c3 rd u l q) (h7 : cI c3 7 rd = 0) (hp : RP c12 B2 u l p) (hq : sk u l (le u l p) = q) (h9 : cI c12 9 B2 = 0) (hH6 : H < 6) : ∃ rx rm, F_18 c1 c2 c3 hr ho 0 = some rx ∧ F_203 c12 B2 (nI p) = some rm ∧ OH rd hr ho B2 u l c1 c2 c3 c12 R rx rm := by
  have ql := RD_le hd
  obtain ⟨⟨n0, m0'⟩, -, ⟨n2, m2', -⟩, -⟩ := hH.1
  have em : nI R - 1 = nI (R - 1) := nI_m1 (by omega)
  obtain ⟨rx, x1, x2, x3, x4, x5⟩ := f_35 (lo := 0) (hi := R - 1) hu l4 (by decide) (by omega) hd
  obtain ⟨m0, y1, y2, y3⟩ := f_181 hu l4 hp
  have e79 : cA m0 7 B2 = cA c12 7 B2 := by rw [(y2 7 (by decide)).2.2.2.1]
  obtain ⟨rm, z1, z2, z3⟩ := f_199 (cell := 40 + 6 * H) (lo := 0) (hi := R - 1) hu l4 (by decide) (by omega) (by omega) y3 hq
  have e9 : cI m0 9 B2 = 0 := by rw [(y2 9 (by decide)).1]; exact h9
  have a2 : ald (cA c12 7 B2) 94 2 = some (nI H) := (ald_ok (i := 2) (by decide) (by decide)).trans (by rw [m2'])
  have a2' : ald (cA m0 7 B2) 94 2 = some (nI H) := by rw [e79]; exact a2
  have a0' : ald (cA m0 7 B2) 94 0 = some (nI R) := by rw [e79]; exact (ald_ok (i := 0) (by decide) (by decide)).trans (by rw [m0'])
  have ix : (40 : Int32) + (6 * nI H) = nI (40 + 6 * H) := by rw [show (6 : Int32) * nI H = nI (6 * H) from pk_mul 6 H]; exact nI_add 40 _
  have ixk : ∀ k : Nat, ((40 : Int32) + (6 * nI H)) + nI k = nI (40 + 6 * H + k) := fun k => by rw [ix, nI_add]
  have hx0 : ∀ {v : Cl × Cl × Cl}, ((if (cI rx.2 7 rd) = 0 then F_19 c1 c2 rx.2 hr ho 0 rx.1 >>= fun r22 => some (r22.1, c2, r22.2) else some (c1, c2, rx.2)) : Option (Cl × Cl × Cl)) = some v → F_18 c1 c2 c3 hr ho 0 = some (v.1, v.2.1, v.2.2) := fun {v} e => by
    unfold F_18
    rw [e2, n0, em]
    exact in_neg (by decide) (ob_mk (in_neg (by decide) (in_neg (by decide) (ob_mk x1 e))) rfl)
  have hm0 : ∀ {v : Int32 × Cl} {f : Int32 × Cl → Option (Int32 × Cl)}, (∀ r, f r = (if r.1 = 0 then some (0, r.2) else F_199 r.2 B2 (((40 : Int32) + (6 * nI H)) + 1) 1 4 >>= fun r10 => if r10.1 = 0 then some (0, r10.2) else ald (cA r10.2 7 B2) 94 (40 + (6 * nI H)) >>= fun v12 => ast r10.2 7 B2 94 ((40 + (6 * nI H)) + 2) v12 >>= fun c12_13 => ast c12_13 7 B2 94 ((40 + (6 * nI H)) + 3) (-1) >>= fun c12_14 => ast c12_14 7 B2 94 ((40 + (6 * nI H)) + 4) 0 >>= fun c12_15 => ast c12_15 7 B2 94 ((40 + (6 * nI H)) + 5) (-1) >>= fun c12_16 => ald (cA c12_16 7 B2) 94 2 >>= fun v17 => ast c12_16 7 B2 94 2 (v17 + 1) >>= fun c12_18 => some (1, c12_18))) → f rm = some v → F_203 c12 B2 (nI p) = some v := fun {v f} hf e => by
    unfold F_203
    refine ob_mk a2 (in_neg (fun z => by have := (nI_eq (a := H) (b := 6) (by omega) (by omega)).mp z; omega) (ob_mk y1 (ob_mk a2' (ob_mk a0' ?_))))
    rw [em, show F_199 m0 B2 (40 + 6 * nI H) 0 (nI (R - 1)) = some rm from by rw [ix]; exact z1]
    rw [hf] at e
    exact e
  rcases x5 with ⟨_, a, b, e⟩ | ⟨_, a, b, e⟩ | ⟨a, _⟩
  · rcases z3 with ⟨_, f, g, h, i⟩ | ⟨f, _⟩
    · have vx : nv u l q < R := by have := a.2.2; omega
      have ql2 := RD_le x4
      obtain ⟨rx', x1', x2', x3', x4', x5'⟩ := f_35 (lo := 1) (hi := 4) hu l4 (by omega) (by omega) x4
      obtain ⟨rm', z1', z2', z3'⟩ := f_199 (cell := 40 + 6 * H + 1) (lo := 1) (hi := 4) hu l4 (by omega) (by omega) (by omega) g (okn_sk a)
      have z1'' : F_199 rm.2 B2 (((40 : Int32) + (6 * nI H)) + 1) 1 4 = some rm' := by rw [show ((40 : Int32) + (6 * nI H)) + 1 = nI (40 + 6 * H + 1) from ixk 1]; exact z1'
      have km : Kp [7, 8, 9, 10] c12 rm'.2 := kp_tr (kp_wd y2 (by decide)) (kp_tr (kp_wd z2 (by decide)) (kp_wd z2' (by decide)))
      obtain ⟨d1, hd1⟩ : ∃ d1, d1 = sA c1 7 ho (upd (cA c1 7 ho) H (nI (nv u l q))) := ⟨_, rfl⟩
      obtain ⟨d2, hd2⟩ : ∃ d2, d2 = sA d1 8 ho (upd (cA d1 8 ho) H rx'.1) := ⟨_, rfl⟩
      obtain ⟨d3, hd3⟩ : ∃ d3, d3 = sA d2 12 ho (upd (cA d2 12 ho) (nv u l q) (cA d2 12 ho (nv u l q) + rx'.1)) := ⟨_, rfl⟩
      have x12 : F_12 c1 ho (nI (nv u l q)) rx'.1 = some (sI d3 2 ho (nI (H + 1))) := by
        unfold F_12
        rw [n2]
        refine ob_mk (in_neg (show ¬ nI 6 ≤ nI H from nI_ge hH6 (by decide)) (ob_mk (v := d1) (by rw [hd1]; exact ast_ok hH6 (by decide)) (ob_mk (v := d2) ?_ (ob_mk (ald_ok (i := nv u l q) (by omega) (by decide)) (ob_mk (v := d3) (by rw [hd3]; exact ast_ok (by omega) (by decide)) (ob_mk rfl rfl)))))) ?_
        · rw [show cI d1 2 ho = nI H by rw [hd1]; exact n2, hd2]; exact ast_ok hH6 (by decide)
        · rw [show cI d3 2 ho = nI H by rw [hd3, hd2, hd1]; exact n2, nI_1]
      have x19 : F_19 c1 c2 rx.2 hr ho 0 rx.1 = some (sI d3 2 ho (nI (H + 1)), rx'.2) := by
        unfold F_19
        rw [e2, b]
        exact in_pos rfl (ob_mk x1' (ob_mk x12 rfl))
      have kd3 : Kp [2, 7, 8, 12] c1 (sI d3 2 ho (nI (H + 1))) := by rw [hd3, hd2, hd1]; exact kp_tr (kp_A (by decide)) (kp_tr (kp_A (by decide)) (kp_tr (kp_A (by decide)) (kp_I (by decide))))
      have od3 : Oth ho c1 (sI d3 2 ho (nI (H + 1))) := by rw [hd3, hd2, hd1]; exact oth_tr oth_A (oth_tr oth_A (oth_tr oth_A oth_I))
      rcases z3' with ⟨a', f', g', h', i'⟩ | ⟨a', f', g'⟩
      · obtain ⟨w1, hw1⟩ : ∃ w1, w1 = sA rm'.2 7 B2 (upd (cA rm'.2 7 B2) (40 + 6 * H + 2) (nI (nv u l q))) := ⟨_, rfl⟩
        obtain ⟨w2, hw2⟩ : ∃ w2, w2 = sA w1 7 B2 (upd (cA w1 7 B2) (40 + 6 * H + 3) (-1)) := ⟨_, rfl⟩
        obtain ⟨w3, hw3⟩ : ∃ w3, w3 = sA w2 7 B2 (upd (cA w2 7 B2) (40 + 6 * H + 4) 0) := ⟨_, rfl⟩
        obtain ⟨w4, hw4⟩ : ∃ w4, w4 = sA w3 7 B2 (upd (cA w3 7 B2) (40 + 6 * H + 5) (-1)) := ⟨_, rfl⟩
        obtain ⟨w5, hw5⟩ : ∃ w5, w5 = sA w4 7 B2 (upd (cA w4 7 B2) 2 (nI (H + 1))) := ⟨_, rfl⟩
        have t1 : cA w1 7 B2 = upd (cA rm'.2 7 B2) (40 + 6 * H + 2) (nI (nv u l q)) := by rw [hw1, cA_same]
        have t2 : cA w2 7 B2 = upd (cA w1 7 B2) (40 + 6 * H + 3) (-1) := by rw [hw2, cA_same]
        have t3 : cA w3 7 B2 = upd (cA w2 7 B2) (40 + 6 * H + 4) 0 := by rw [hw3, cA_same]
        have t4 : cA w4 7 B2 = upd (cA w3 7 B2) (40 + 6 * H + 5) (-1) := by rw [hw4, cA_same]
        have t5 : cA w5 7 B2 = upd (cA w4 7 B2) 2 (nI (H + 1)) := by rw [hw5, cA_same]
        have kw : Kp [7] rm'.2 w5 := by rw [hw5, hw4, hw3, hw2, hw1]; exact kp_tr (kp_A (by decide)) (kp_tr (kp_A (by decide)) (kp_tr (kp_A (by decide)) (kp_tr (kp_A (by decide)) (kp_A (by decide)))))
        have base : ∀ j, j ≠ 40 + 6 * H → j ≠ 40 + 6 * H + 1 → cA rm'.2 7 B2 j = cA c12 7 B2 j := fun j j1 j2 => by rw [i', pk_un j2, i, pk_un j1, e79]
        have b0 : cA rm'.2 7 B2 (40 + 6 * H) = nI (nv u l q) := by rw [i', pk_un (by omega), i, pk_us]
        have b1 : cA rm'.2 7 B2 (40 + 6 * H + 1) = nI (nv u l (skp u l q)) := by rw [i', pk_us]
        have hm : F_203 c12 B2 (nI p) = some (1, w5) := by
          refine hm0 (fun r => rfl) (in_neg (by rw [f]; decide) (ob_mk z1'' (in_neg (by rw [f']; decide) ?_)))
          rw [ix]
          refine ob_mk ((ald_ok (i := 40 + 6 * H) (by omega) (by decide)).trans (by rw [b0])) (ob_mk (v := w1) ?_ (ob_mk (v := w2) ?_ (ob_mk (v := w3) ?_ (ob_mk (v := w4) ?_ (ob_mk (v := nI H) ?_ (ob_mk (v := w5) ?_ rfl))))))
          · rw [show nI (40 + 6 * H) + 2 = nI (40 + 6 * H + 2) from nI_add _ 2, hw1]; exact ast_ok (by omega) (by decide)
          · rw [show nI (40 + 6 * H) + 3 = nI (40 + 6 * H + 3) from nI_add _ 3, hw2]; exact ast_ok (by omega) (by decide)
          · rw [show nI (40 + 6 * H) + 4 = nI (40 + 6 * H + 4) from nI_add _ 4, hw3]; exact ast_ok (by omega) (by decide)
          · rw [show nI (40 + 6 * H) + 5 = nI (40 + 6 * H + 5) from nI_add _ 5, hw4]; exact ast_ok (by omega) (by decide)
          · refine (ald_ok (i := 2) (by decide) (by decide)).trans ?_
            rw [t4, pk_un (by omega), t3, pk_un (by omega), t2, pk_un (by omega), t1, pk_un (by omega), base 2 (by omega) (by omega), m2']
          · rw [hw5, nI_1]; exact ast_ok (i := 2) (by decide) (by decide)
        refine ⟨_, _, hx0 (in_pos e (ob_mk x19 rfl)), hm, od3, ⟨kp_rf _ _, oth_rf _ _⟩, ⟨kp_tr x2 x2', oth_tr x3 x3'⟩, kp_tr km (kp_wd kw (by decide)), ?_⟩
        rcases x5' with ⟨_, _, b', e'⟩ | ⟨_, b', _⟩ | ⟨b', _⟩
        · refine Or.inl ⟨rfl, skp u l (skp u l q), D, H + 1, Q, ?_, e2, x4', e', ⟨nxt u l (skp u l q), RP_k kw (by decide) (by decide) (by decide) g', okn_sk a'⟩, by show cI w5 9 B2 = 0; rw [(kw 9 (by decide)).1, h', h]; exact e9⟩
          refine HR_head (x := nv u l q) (y := nv u l (skp u l q)) kd3 hH6 r6 vx a'.2.1 a'.2.2 (by rw [cI_same]) ?_ ?_ ?_ (fun j j1 j2 => ?_) ?_ ?_ ?_ ?_ ?_ ?_ ?_ hH
          · rw [cA_sI, hd3, cA_ne (show 7 ≠ 12 by decide), hd2, cA_ne (show 7 ≠ 8 by decide), hd1, cA_same]
          · rw [cA_sI, hd3, cA_ne (show 8 ≠ 12 by decide), hd2, cA_same, hd1, cA_ne (show 8 ≠ 7 by decide), b']
          · have e12 : cA d2 12 ho = cA c1 12 ho := by rw [hd2, cA_ne (show 12 ≠ 8 by decide), hd1, cA_ne (show 12 ≠ 7 by decide)]
            rw [cA_sI, hd3, cA_same, e12, b']
          · show cA w5 7 B2 j = _
            rw [t5, pk_un j1, t4, pk_un (by omega), t3, pk_un (by omega), t2, pk_un (by omega), t1, pk_un (by omega), base j (by omega) (by omega)]
          · show cA w5 7 B2 2 = _
            rw [t5, pk_us]
          · show cA w5 7 B2 (40 + 6 * H) = _
            rw [t5, pk_un (by omega), t4, pk_un (by omega), t3, pk_un (by omega), t2, pk_un (by omega), t1, pk_un (by omega), b0]
          · show cA w5 7 B2 (40 + 6 * H + 1) = _
            rw [t5, pk_un (by omega), t4, pk_un (by omega), t3, pk_un (by omega), t2, pk_un (by omega), t1, pk_un (by omega), b1]
          · show cA w5 7 B2 (40 + 6 * H + 2) = _
            rw [t5, pk_un (by omega), t4, pk_un (by omega), t3, pk_un (by omega), t2, pk_un (by omega), t1, pk_us]
          · show cA w5 7 B2 (40 + 6 * H + 3) = _
            rw [t5, pk_un (by omega), t4, pk_un (by omega), t3, pk_un (by omega), t2, pk_us]
          · show cA w5 7 B2 (40 + 6 * H + 4) = _
            rw [t5, pk_un (by omega), t4, pk_un (by omega), t3, pk_us]
          · show cA w5 7 B2 (40 + 6 * H + 5) = _
            rw [t5, pk_un (by omega), t4, pk_us]
        · exact absurd a' b'
        · exact absurd e b'
      · refine ⟨_, _, hx0 (in_pos e (ob_mk x19 rfl)), hm0 (fun r => rfl) (in_neg (by rw [f]; decide) (ob_mk z1'' (in_pos f' rfl))), od3, ⟨kp_rf _ _, oth_rf _ _⟩, ⟨kp_tr x2 x2', oth_tr x3 x3'⟩, km, ?_⟩
        rcases x5' with ⟨_, b', _⟩ | ⟨_, _, b', e'⟩ | ⟨b', _⟩
        · exact absurd b' a'
        · have fb := nfl_b (u := u) (l := l) (p := skp u l q) (by omega)
          exact Or.inr ⟨rfl, nfl u l (skp u l q), skp u l (skp u l q), e', g' (by rw [h]; exact e9), fb.1, fb.2, x4'⟩
        · exact absurd e b'
    · exact absurd a f
  · rcases z3 with ⟨f, _⟩ | ⟨_, f, g⟩
    · exact absurd f a
    · have fb := nfl_b (u := u) (l := l) (p := q) (by omega)
      have nz : ¬ cI rx.2 7 rd = 0 := by rw [e]; exact nI_ne0 (by omega) (by omega)
      exact ⟨_, _, hx0 (in_neg nz rfl), hm0 (fun r => rfl) (in_pos f rfl), oth_rf _ _, ⟨kp_rf _ _, oth_rf _ _⟩, ⟨x2, x3⟩, kp_tr (kp_wd y2 (by decide)) (kp_wd z2 (by decide)), Or.inr ⟨rfl, nfl u l q, skp u l q, e, g e9, fb.1, fb.2, x4⟩⟩
  · exact absurd h7 a
end Clause2
