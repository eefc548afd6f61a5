/-! ===== house: clauses, both sides ===== -/
section Clause
variable {c c1 c2 c3 c12 : Cl} {rd hr ho B2 : Nat} {u : Nat → Nat} {l n p q : Nat} {R D H Q : Nat}
theorem kd_wl {i : Nat} (hu : ∀ j, u j < 256) (hi : i < 23) (h : kd u l p = i) : p < l ∧ nxt u l p = le u l p ∧ skp u l p = sk u l (le u l p) := by
  have g := (kd_w hu hi).mp h
  have e : isL (u p) = true := by
    refine Classical.byContradiction fun z => ?_
    have : le u l p = p := rr_e (fun _ => by cases h : isL (u p); rfl; exact absurd h z)
    omega
  have d : ¬ isD (u p) = true := fun z => by
    have a := isD_t.mp z
    have b := isL_t.mp e
    omega
  have en : nxt u l p = le u l p := by unfold nxt; rw [if_neg d, if_pos e]
  exact ⟨g.1, en, by unfold skp; rw [if_pos g.1, en]⟩
theorem okn_lt {lo hi : Nat} (h : okn u l p lo hi) : p < l := by
  refine Classical.byContradiction fun z => ?_
  have := h.1
  unfold kd at this
  rw [if_neg z] at this
  omega
theorem okn_sk {lo hi : Nat} (h : okn u l p lo hi) : sk u l (nxt u l p) = skp u l p := by unfold skp; rw [if_pos (okn_lt h)]
theorem nfl_b (hp : p ≤ 400) : 1 ≤ nfl u l p ∧ nfl u l p < 10000 := by unfold nfl flt; split <;> omega
theorem f_199 {lo hi cell : Nat} (hu : ∀ j, u j < 256) (l4 : l ≤ 400) (hlo : lo < 2 ^ 31) (hhi : hi < 2 ^ 31) (hc : cell < 94) (hR : RP c B2 u l n) (hq : sk u l n = q) : Rn (F_199 c B2 (nI cell) (nI lo) (nI hi)) (fun r => Kp [7, 8, 9, 10] c r.2 ∧ ((okn u l q lo hi ∧ r.1 = 1 ∧ RP r.2 B2 u l (nxt u l q) ∧ cI r.2 9 B2 = cI c 9 B2 ∧ cA r.2 7 B2 = upd (cA c 7 B2) cell (nI (nv u l q))) ∨ (¬ okn u l q lo hi ∧ r.1 = 0 ∧ (cI c 9 B2 = 0 → cI r.2 9 B2 = nI (nfl u l q))))) := by
  unfold F_199
  refine rn_b (f_183 hu l4 hlo hhi hR) (fun r ⟨k, h⟩ => ?_)
  rw [hq] at h
  rcases h with ⟨a, b, e, f, g⟩ | ⟨a, b, e⟩
  · refine rn_n (by rw [b]; decide) (rn_st (by omega) (by decide) (rn_r ⟨kp_tr (kp_wd k (by decide)) (kp_A (by decide)), Or.inl ⟨a, rfl, RP_k (Ks := [7]) (kp_A (by decide)) (by decide) (by decide) (by decide) e, f, ?_⟩⟩))
    show cA (sA r.2 7 B2 _) 7 B2 = _
    rw [cA_same, g, (k 7 (by decide)).2.2.2.1]
  · exact rn_p b (rn_r ⟨kp_wd k (by decide), Or.inr ⟨a, rfl, e⟩⟩)
/-- both read on -/
def HS (rd hr ho B2 : Nat) (u : Nat → Nat) (l : Nat) (c1 c2 c3 c12 : Cl) (p R D H Q : Nat) : Prop := HR c1 ho (cA c12 7 B2) R D H Q (cI c2 1 hr) ∧ cR c2 0 hr = rd ∧ RD c3 rd u l p ∧ cI c3 7 rd = 0 ∧ (∃ n, RP c12 B2 u l n ∧ sk u l n = p) ∧ cI c12 9 B2 = 0
/-- both have the same fault -/
def FO (rd B2 : Nat) (u : Nat → Nat) (l : Nat) (c3 c12 : Cl) : Prop := ∃ f p, cI c3 7 rd = nI f ∧ cI c12 9 B2 = nI f ∧ 1 ≤ f ∧ f < 10000 ∧ RD c3 rd u l p
def OH (rd hr ho B2 : Nat) (u : Nat → Nat) (l : Nat) (c1 c2 c3 c12 : Cl) (R : Nat) (rx : Cl × Cl × Cl) (rm : Int32 × Cl) : Prop := Oth ho c1 rx.1 ∧ (Kp [1] c2 rx.2.1 ∧ Oth hr c2 rx.2.1) ∧ (Kp [6, 7] c3 rx.2.2 ∧ Oth rd c3 rx.2.2) ∧ Kp [7, 8, 9, 10] c12 rm.2 ∧ ((rm.1 = 1 ∧ ∃ p D H Q, HS rd hr ho B2 u l rx.1 rx.2.1 rx.2.2 rm.2 p R D H Q) ∨ (rm.1 = 0 ∧ FO rd B2 u l rx.2.2 rm.2))
theorem h_linger (hu : ∀ j, u j < 256) (l4 : l ≤ 400) (hH : HR c1 ho (cA c12 7 B2) R D H Q (cI c2 1 hr)) (e2 : cR c2 0 hr = rd) (hd : RD c3 rd u l q) (h7 : cI c3 7 rd = 0) (hp : RP c12 B2 u l p) (hq : sk u l (le u l p) = q) (h9 : cI c12 9 B2 = 0) (lg0 : cI c2 1 hr = 0) : ∃ rx rm, F_18 c1 c2 c3 hr ho 17 = some rx ∧ F_206 c12 B2 (nI p) = some rm ∧ OH rd hr ho B2 u l c1 c2 c3 c12 R rx rm := by
  have ql := RD_le hd
  obtain ⟨rx, x1, x2, x3, x4, x5⟩ := f_35 (lo := 0) (hi := 9) hu l4 (by decide) (by decide) hd
  obtain ⟨m0, y1, y2, y3⟩ := f_181 hu l4 hp
  obtain ⟨rm, z1, z2, z3⟩ := f_199 (lo := 0) (hi := 9) (cell := 7) hu l4 (by decide) (by decide) (by decide) y3 hq
  have km : Kp [7, 8, 9, 10] c12 rm.2 := kp_tr (kp_wd y2 (by decide)) (kp_wd z2 (by decide))
  have e9 : cI m0 9 B2 = 0 := by rw [(y2 9 (by decide)).1]; exact h9
  have e7 : cA c12 7 B2 7 < 0 := by
    rcases hH.2.2.2.2.2.2 with ⟨_, h, _⟩ | ⟨h, _⟩
    · rw [h]; decide
    · rw [lg0] at h; exact absurd h (by decide)
  have hm : F_206 c12 B2 (nI p) = some (rm.1, rm.2) := by
    unfold F_206
    refine ob_mk (ald_ok (i := 7) (by decide) (by decide)) (in_pos e7 (ob_mk y1 (ob_mk z1 (ob_mk (v := rm.1) ?_ rfl))))
    rcases z3 with ⟨_, e, _⟩ | ⟨_, e, _⟩ <;> rw [e] <;> rfl
  have hx : F_18 c1 c2 c3 hr ho 17 = some (sI c1 4 ho rx.1, sI c2 1 hr 1, rx.2) := by
    unfold F_18
    rw [e2]
    exact in_neg (by decide) (ob_mk (in_pos rfl (ob_mk x1 (ob_mk rfl (ob_mk rfl rfl)))) rfl)
  refine ⟨_, _, hx, hm, oth_I, ⟨kp_I (by decide), oth_I⟩, ⟨x2, x3⟩, km, ?_⟩
  rcases x5 with ⟨_, a, b, e⟩ | ⟨_, a, b, e⟩ | ⟨a, _⟩
  · rcases z3 with ⟨_, f, g, h, i⟩ | ⟨f, _⟩
    · refine Or.inl ⟨f, skp u l q, D, H, Q, ?_, e2, x4, e, ⟨nxt u l q, g, okn_sk a⟩, by rw [h, (y2 9 (by decide)).1]; exact h9⟩
      show HR (sI c1 4 ho rx.1) ho (cA rm.2 7 B2) R D H Q (cI (sI c2 1 hr 1) 1 hr)
      rw [cI_same]
      refine HR_linger (v := nv u l q) (kp_I (by decide)) (by have := a.2.2; omega) (by rw [cI_same]; exact b) (fun j hj => ?_) ?_ hH
      · rw [i, pk_un hj, (y2 7 (by decide)).2.2.2.1]
      · rw [i, pk_us]
    · exact absurd a f
  · rcases z3 with ⟨f, _⟩ | ⟨_, f, g⟩
    · exact absurd f a
    · have fb := nfl_b (u := u) (l := l) (p := q) (by omega)
      exact Or.inr ⟨f, nfl u l q, skp u l q, e, g e9, fb.1, fb.2, x4⟩
  · exact absurd h7 a
theorem h_sense (hu : ∀ j, u j < 256) (l4 : l ≤ 400) (r1 : 1 ≤ R) (r6 : R ≤ 6) (hH : HR c1 ho (cA c12 7 B2) R D H Q (cI c2 1 hr)) (e2 : cR c2 0 hr = rd) (hd : RD c3 rd u l q) (h7 : cI c3 7 rd = 0) (hp : RP c12 B2 u l p) (hq : sk u l (le u l p) = q) (h9 : cI c12 9 B2 = 0) (hQ : Q < 6) : ∃ rx rm, F_18 c1 c2 c3 hr ho 16 = some rx ∧ F_205 c12 B2 (nI p) = some rm ∧ OH rd hr ho B2 u l c1 c2 c3 c12 R rx rm := by
  have ql := RD_le hd
  obtain ⟨⟨n0, m0'⟩, -, -, ⟨n3, m3, q6⟩, -⟩ := hH.1
  have pw : 2 ^ R ≤ 64 ∧ 2 ≤ 2 ^ R := by
    have a := Nat.pow_le_pow_right (n := 2) (by decide) r6
    have b := Nat.pow_le_pow_right (n := 2) (by decide) r1
    omega
  have sh : ((1 : Int32) <<< (nI R &&& 31)) - 1 = nI (2 ^ R - 1) := by
    have key : ∀ r : Fin 7, ((1 : Int32) <<< (nI r.val &&& 31)) - 1 = nI (2 ^ r.val - 1) := by decide +kernel
    exact key ⟨R, by omega⟩
  obtain ⟨rx, x1, x2, x3, x4, x5⟩ := f_35 (lo := 1) (hi := 2 ^ R - 1) hu l4 (by decide) (by omega) hd
  obtain ⟨m0, y1, y2, y3⟩ := f_181 hu l4 hp
  have e79 : cA m0 7 B2 = cA c12 7 B2 := by rw [(y2 7 (by decide)).2.2.2.1]
  obtain ⟨rm, z1, z2, z3⟩ := f_199 (lo := 1) (hi := 2 ^ R - 1) (cell := 88 + Q) hu l4 (by decide) (by omega) (by omega) y3 hq
  have km : Kp [7, 8, 9, 10] c12 rm.2 := kp_tr (kp_wd y2 (by decide)) (kp_wd z2 (by decide))
  have e9 : cI m0 9 B2 = 0 := by rw [(y2 9 (by decide)).1]; exact h9
  have a3 : ald (cA c12 7 B2) 94 3 = some (nI Q) := (ald_ok (i := 3) (by decide) (by decide)).trans (by rw [m3])
  have a3' : ald (cA m0 7 B2) 94 3 = some (nI Q) := by rw [e79]; exact a3
  have a0' : ald (cA m0 7 B2) 94 0 = some (nI R) := by rw [e79]; exact (ald_ok (i := 0) (by decide) (by decide)).trans (by rw [m0'])
  have x13 : F_13 c1 ho rx.1 = some (sI (sA c1 11 ho (upd (cA c1 11 ho) Q rx.1)) 3 ho (nI (Q + 1))) := by
    unfold F_13
    rw [n3]
    refine ob_mk (in_neg (show ¬ nI 6 ≤ nI Q from nI_ge hQ (by decide)) (ob_mk (ast_ok hQ (by decide)) (ob_mk rfl rfl))) ?_
    rw [show cI (sA c1 11 ho (upd (cA c1 11 ho) Q rx.1)) 3 ho = nI Q from n3, nI_1]
  have hx : F_18 c1 c2 c3 hr ho 16 = some (sI (sA c1 11 ho (upd (cA c1 11 ho) Q rx.1)) 3 ho (nI (Q + 1)), c2, rx.2) := by
    unfold F_18
    rw [e2, n0, sh]
    exact in_neg (by decide) (ob_mk (in_neg (by decide) (in_pos rfl (ob_mk x1 (ob_mk x13 rfl)))) rfl)
  have mh : ∀ {v : Int32 × Cl}, ((if rm.1 = 0 then some (0, rm.2) else ald (cA rm.2 7 B2) 94 3 >>= fun v10 => ast rm.2 7 B2 94 3 (v10 + 1) >>= fun c12_11 => some (1, c12_11)) : Option (Int32 × Cl)) = some v → F_205 c12 B2 (nI p) = some v := fun {v} e => by
    unfold F_205
    refine ob_mk a3 (in_neg (fun z => by have := (nI_eq (a := Q) (b := 6) (by omega) (by omega)).mp z; omega) (ob_mk y1 (ob_mk a3' (ob_mk a0' ?_))))
    rw [show (88 : Int32) + nI Q = nI (88 + Q) from nI_add 88 Q, sh]
    exact ob_mk z1 e
  rcases z3 with ⟨a, f, g, h, i⟩ | ⟨a, f, g⟩
  · have g3 : ald (cA rm.2 7 B2) 94 3 = some (nI Q) := (ald_ok (i := 3) (by decide) (by decide)).trans (by rw [i, pk_un (by omega), e79, m3])
    refine ⟨_, _, hx, mh (in_neg (by rw [f]; decide) (ob_mk g3 (ob_mk (ast_ok (i := 3) (by decide) (by decide)) rfl))), oth_tr oth_A oth_I, ⟨kp_rf _ _, oth_rf _ _⟩, ⟨x2, x3⟩, kp_tr km (kp_A (by decide)), ?_⟩
    rcases x5 with ⟨_, _, b, e⟩ | ⟨_, b, _⟩ | ⟨b, _⟩
    · refine Or.inl ⟨rfl, skp u l q, D, H, Q + 1, ?_, e2, x4, e, ⟨nxt u l q, RP_k (Ks := [7]) (kp_A (by decide)) (by decide) (by decide) (by decide) g, okn_sk a⟩, by show cI rm.2 9 B2 = 0; rw [h]; exact e9⟩
      refine HR_sense (x := nv u l q) (kp_tr (kp_A (by decide)) (kp_I (by decide))) hQ a.2.1 (by have := a.2.2; omega) (by rw [cI_same]) (by rw [cA_sI, cA_same, b]) (fun j j1 j2 => ?_) ?_ ?_ hH
      · show cA (sA rm.2 7 B2 _) 7 B2 j = _
        rw [cA_same, pk_un j1, i, pk_un j2, e79]
      · show cA (sA rm.2 7 B2 _) 7 B2 3 = _
        rw [cA_same, pk_us, nI_1]
      · show cA (sA rm.2 7 B2 _) 7 B2 (88 + Q) = _
        rw [cA_same, pk_un (by omega), i, pk_us]
    · exact absurd a b
    · exact absurd h7 b
  · refine ⟨_, _, hx, mh (in_pos f rfl), oth_tr oth_A oth_I, ⟨kp_rf _ _, oth_rf _ _⟩, ⟨x2, x3⟩, km, ?_⟩
    rcases x5 with ⟨_, b, _⟩ | ⟨_, _, b, e⟩ | ⟨b, _⟩
    · exact absurd b a
    · have fb := nfl_b (u := u) (l := l) (p := q) (by omega)
      exact Or.inr ⟨rfl, nfl u l q, skp u l q, e, g e9, fb.1, fb.2, x4⟩
    · exact absurd h7 b
end Clause
