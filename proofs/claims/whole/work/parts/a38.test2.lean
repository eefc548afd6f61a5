/-! ===== rules: tests, the reference, whole ===== -/
section Test2
variable {c : Cl} {B2 t : Nat} {u : Nat → Nat} {l : Nat} {x y : Ps} {j dd : Nat} {σ : List Nat}
theorem rP_andp {a : Bool} : rP (andp a x) = rP x := by unfold andp; cases a <;> simp [rP_put]
theorem rP_por {b : Bool} : rP (por b x) = rP x := by unfold por; cases b <;> simp [rP_put]
theorem sl_por {b : Bool} (l4 : l ≤ 400) (h : SL l (j + (if b = true then 1 else 0)) x) : SL l j (por b x) := by
  cases b with
  | false => exact h
  | true => exact (sl_put l4 h).2.1
theorem ptl_ms {pf : Ps → Pr} (l4 : l ≤ 400) (hpf : ∀ x y j, SL l j x → pf x = .inr y → SL l j y ∧ rP x ≤ rP y) : ∀ (m : Nat) (b : Bool) (x y : Ps) (j : Nat), SL l (j + (if b = true then 1 else 0)) x → ptl u l pf m b x = .inr y → SL l j y ∧ rP x ≤ rP y
  | 0, b, x, y, j, hs, e => by
    have e' : (Sum.inr (por b x) : Pr) = .inr y := e
    cases e'
    exact ⟨sl_por l4 hs, by rw [rP_por]; exact Nat.le_refl _⟩
  | m + 1, b, x, y, j, hs, e => by
    have e' : (if kd u l (rP x) = 20 then pb (pf (pskx u l x)) (fun y => ptl u l pf m b (pput 29 y)) else if kd u l (rP x) = 21 then pb (pf (por b (pskx u l x))) (ptl u l pf m true) else (Sum.inr (por b x) : Pr)) = .inr y := e
    have g1 : rP x ≤ skp u l (rP x) := skp_ge _
    split at e'
    · rename_i hk
      have pl := kd_lt_l (u := u) (l := l) (x := x) (by omega)
      cases hv : pf (pskx u l x) with
      | inl f => rw [hv] at e'; cases e'
      | inr z =>
        rw [hv] at e'
        have s1 := hpf _ _ _ (sl_sk (u := u) pl hs) hv
        have r := ptl_ms l4 hpf m b (pput 29 z) y j (sl_put l4 s1.1).2.1 e'
        rw [rP_put] at r
        have : rP (pskx u l x) = skp u l (rP x) := rfl
        exact ⟨r.1, by omega⟩
    · split at e'
      · rename_i hk
        have pl := kd_lt_l (u := u) (l := l) (x := x) (by omega)
        cases hv : pf (por b (pskx u l x)) with
        | inl f => rw [hv] at e'; cases e'
        | inr z =>
          rw [hv] at e'
          have s0 : SL l (j + 1 + (if b = true then 1 else 0)) (pskx u l x) := sl_le (sl_sk (u := u) pl hs) (by omega)
          have s1 := hpf _ _ _ (sl_por l4 s0) hv
          have r := ptl_ms l4 hpf m true z y j s1.1 e'
          have p2 := s1.2
          rw [rP_por] at p2
          have : rP (pskx u l x) = skp u l (rP x) := rfl
          exact ⟨r.1, by omega⟩
      · cases e'
        exact ⟨sl_por l4 hs, by rw [rP_por]; exact Nat.le_refl _⟩
theorem pfa_ms (l4 : l ≤ 400) : ∀ (e : Nat) (x y : Ps) (j : Nat), SL l j x → pfa u l e x = .inr y → SL l j y ∧ rP x ≤ rP y
  | 0, x, y, j, hs, h => by
    have h' : (if kd u l (rP x) = 22 ∨ kd u l (rP x) = 191 then (Sum.inl (flt (rP x) 2) : Pr) else pcmp u l x) = .inr y := h
    split at h'
    · cases h'
    · exact pcmp_ms l4 hs h'
  | e + 1, x, y, j, hs, h => by
    have h' : (if kd u l (rP x) = 22 then pb (pfa u l e (pskx u l x)) (fun y => .inr (pput 31 y)) else if kd u l (rP x) = 191 then pb (pb (pfa u l e (pskx u l x)) (ptl u l (pfa u l e) 400 false)) (pcls u l) else pcmp u l x) = .inr y := h
    have g1 : rP x ≤ skp u l (rP x) := skp_ge _
    have g2 : rP (pskx u l x) = skp u l (rP x) := rfl
    split at h'
    · rename_i hk
      have pl := kd_lt_l (u := u) (l := l) (x := x) (by omega)
      cases hv : pfa u l e (pskx u l x) with
      | inl f => rw [hv] at h'; cases h'
      | inr z =>
        rw [hv] at h'
        have s1 := pfa_ms l4 e _ _ _ (sl_sk (u := u) pl hs) hv
        cases h'
        exact ⟨(sl_put l4 s1.1).2.1, by rw [rP_put]; have := s1.2; omega⟩
    · split at h'
      · rename_i hk
        have pl := kd_lt_l (u := u) (l := l) (x := x) (by omega)
        cases hv : pfa u l e (pskx u l x) with
        | inl f => rw [hv] at h'; cases h'
        | inr z =>
          rw [hv] at h'
          have s1 := pfa_ms l4 e _ _ _ (sl_sk (u := u) pl hs) hv
          have h2 : pb (ptl u l (pfa u l e) 400 false z) (pcls u l) = .inr y := h'
          cases hw : ptl u l (pfa u l e) 400 false z with
          | inl f => rw [hw] at h2; cases h2
          | inr w =>
            rw [hw] at h2
            have s2 := ptl_ms l4 (fun x y j => pfa_ms l4 e x y j) 400 false z w (j + 1) s1.1 hw
            have h3 : pcls u l w = .inr y := h2
            unfold pcls at h3
            split at h3
            · cases h3
              have g3 : rP w ≤ skp u l (rP w) := skp_ge _
              have g4 : rP (pskx u l w) = skp u l (rP w) := rfl
              exact ⟨sl_skw (sl_le s2.1 (by omega)), by have := s1.2; have := s2.2; omega⟩
            · cases h3
      · exact pcmp_ms l4 hs h'
/-- one is opened -/
theorem f_187 {o : Nat} (hd : dd ≤ 10) (hσ : σ.length < 400) (hR : RP c B2 u l (rP x)) (h : RQs B2 t u l c x σ dd) : (dd < 10 ∧ ∃ c', F_187 c B2 (nI o) = some (1, c') ∧ Kp [13, 15, 16] c c' ∧ RQs B2 t u l c' x (o :: σ) (dd + 1)) ∨ (dd = 10 ∧ ∃ c', F_187 c B2 (nI o) = some (0, c') ∧ Kp [9] c c' ∧ cI c' 9 B2 = nI (flt (rP x) 2)) := by
  by_cases w : dd = 10
  · obtain ⟨q, q1, q2, q3, q4, -⟩ := f_176 (c := c) (B2 := B2) (w := 2) (p := rP x)
    refine Or.inr ⟨w, q.2, ?_, q3, q4 h.1.2.1⟩
    unfold F_187
    rw [h.2.2.2, hR.2.2.1]
    refine in_pos (by rw [w]; rfl) (ob_mk q1 ?_)
    rw [q2]; rfl
  · obtain ⟨d1, hd1⟩ : ∃ d1, d1 = sI c 13 B2 (nI (dd + 1)) := ⟨_, rfl⟩
    obtain ⟨d2, hd2⟩ : ∃ d2, d2 = sA d1 15 B2 (upd (cA d1 15 B2) σ.length (nI o)) := ⟨_, rfl⟩
    obtain ⟨d3, hd3⟩ : ∃ d3, d3 = sI d2 16 B2 (nI (σ.length + 1)) := ⟨_, rfl⟩
    have k1 : Kp [13] c d1 := by rw [hd1]; exact kp_I (by decide)
    have k2 : Kp [15] d1 d2 := by rw [hd2]; exact kp_A (by decide)
    have k3 : Kp [16] d2 d3 := by rw [hd3]; exact kp_I (by decide)
    have kk : Kp [13, 15, 16] c d3 := kp_tr (kp_wd k1 (by decide)) (kp_tr (kp_wd k2 (by decide)) (kp_wd k3 (by decide)))
    have e16 : cI d1 16 B2 = nI σ.length := by rw [(k1 16 (by decide)).1]; exact h.2.1
    have e162 : cI d2 16 B2 = nI σ.length := by rw [(k2 16 (by decide)).1]; exact e16
    refine Or.inl ⟨by omega, d3, ?_, kk, RQ_st kk h.1, ?_, ⟨?_, ?_⟩, ?_⟩
    · unfold F_187
      rw [h.2.2.2]
      refine in_neg (fun z => w ((nI_eq (a := dd) (b := 10) (by omega) (by omega)).mp z)) (ob_mk (v := d1) (by rw [hd1, nI_1]) (ob_mk (v := d2) ?_ (ob_mk (v := d3) ?_ rfl)))
      · rw [e16, hd2]; exact ast_ok hσ (by decide)
      · rw [e162, nI_1, hd3]
    · rw [hd3, cI_same]; rfl
    · rw [(k3 15 (by decide)).2.2.2.1, hd2, cA_same, pk_us]
    · rw [(k3 15 (by decide)).2.2.2.1, hd2, cA_same, (k1 15 (by decide)).2.2.2.1]; exact sto_up (Nat.le_refl _) h.2.2.1
    · rw [(k3 13 (by decide)).1, (k2 13 (by decide)).1, hd1, cI_same]
def BadK (B2 t : Nat) (c : Cl) (f : Nat) (q : Int32 × Cl) : Prop := FQ B2 t TK c q.2 ∧ q.1 = 0 ∧ cI q.2 9 B2 = nI f
def FaO (B2 t : Nat) (u : Nat → Nat) (l : Nat) (σ : List Nat) (dd : Nat) (r : Pr) (c : Cl) (k : Option (Int32 × Cl)) : Prop := (∀ f, r = .inl f → Rn k (BadK B2 t c f)) ∧ (∀ y, r = .inr y → ∃ c', FQ B2 t TK c c' ∧ RQs B2 t u l c' y σ dd ∧ k = KS B2 c')
def TlO (B2 t : Nat) (u : Nat → Nat) (l : Nat) (β : List Nat) (dd j : Nat) (r : Pr) (c : Cl) (k : Option (Int32 × Cl)) : Prop := (∀ f, r = .inl f → Rn k (BadK B2 t c f)) ∧ (∀ y, r = .inr y → ∃ c' a b x, FQ B2 t TK c c' ∧ RQs B2 t u l c' x (tau a b ++ β) dd ∧ SL l ((tau a b ++ β).length + j) x ∧ y = por b (andp a x) ∧ kd u l (rP x) ≠ 20 ∧ kd u l (rP x) ≠ 21 ∧ k = KS B2 c')
theorem bad_tr {a b : Cl} {f : Nat} {k : Option (Int32 × Cl)} (h : FQ B2 t TK a b) (h' : Rn k (BadK B2 t b f)) : Rn k (BadK B2 t a f) := rn_m h' (fun _ ⟨q1, q2, q3⟩ => ⟨fq_tr h q1, q2, q3⟩)
theorem tl_ok {e : Nat} {β : List Nat} (hu : ∀ j, u j < 256) (l4 : l ≤ 400) (ht : t < 6) (hdd : dd ≤ 10) (hβ : bas β) (hf : ∀ (x : Ps) (σ : List Nat) (c : Cl) (j : Nat), (∀ a, a ∈ σ → ops a) → RQs B2 t u l c x σ dd → SL l (σ.length + j) x → FaO B2 t u l σ dd (pfa u l e x) c (KF B2 c)) : ∀ (m : Nat) (a b : Bool) (x : Ps) (c : Cl) (j : Nat), 400 ≤ m + rP x → RQs B2 t u l c x (tau a b ++ β) dd → SL l ((tau a b ++ β).length + j) x → TlO B2 t u l β dd j (ptl u l (pfa u l e) m b (andp a x)) c (KS B2 c) := fun m => by
  have key : ∀ (m : Nat) (a b : Bool) (x : Ps) (c : Cl) (j : Nat), 400 ≤ m + rP x → RQs B2 t u l c x (tau a b ++ β) dd → SL l ((tau a b ++ β).length + j) x → (∀ m', m = m' + 1 → ∀ (a b : Bool) (x : Ps) (c : Cl) (j : Nat), 400 ≤ m' + rP x → RQs B2 t u l c x (tau a b ++ β) dd → SL l ((tau a b ++ β).length + j) x → TlO B2 t u l β dd j (ptl u l (pfa u l e) m' b (andp a x)) c (KS B2 c)) → TlO B2 t u l β dd j (ptl u l (pfa u l e) m b (andp a x)) c (KS B2 c) := fun m a b x c j hm h hs rec => by
    have pa : rP (andp a x) = rP x := rP_andp
    have comA : pskx u l (andp a x) = andp a (pskx u l x) := by
      unfold andp
      cases a
      · rfl
      · exact due_sk (o := some 29)
    have comO : ∀ z, pskx u l (por b z) = por b (pskx u l z) := fun z => by
      unfold por
      cases b
      · rfl
      · exact due_sk (o := some 30)
    by_cases hk : kd u l (rP x) = 20 ∨ kd u l (rP x) = 21
    · have pl := kd_lt_l (u := u) (l := l) (x := x) (by omega)
      have hsl := hs.2.1
      cases m with
      | zero => omega
      | succ m =>
        obtain ⟨c1, k1, h1, R1, e1⟩ := ks_exit hu l4 hβ h hs (Or.inl (by omega))
        obtain ⟨c2, f2, h2, e2⟩ := kr_op hu l4 ht hdd hβ h1 hs rfl hk
        have fc2 : FQ B2 t TK c c2 := fq_tr (fq_k k1 (by decide) (by decide)) f2
        have pg := skp_gt (u := u) pl
        rw [e1, e2]
        rcases h2 with ⟨w, h2, s2⟩ | ⟨w, h2, s2⟩
        · have ep : ptl u l (pfa u l e) (m + 1) b (andp a x) = pb (pfa u l e (pskx u l (andp a x))) (fun y => ptl u l (pfa u l e) m b (pput 29 y)) := by
            show (if kd u l (rP (andp a x)) = 20 then _ else _) = _
            rw [if_pos (by rw [pa]; exact w)]
          rw [ep]
          obtain ⟨p1, p2⟩ := hf _ _ c2 j (tau_ops hβ) h2 s2
          cases hv : pfa u l e (pskx u l (andp a x)) with
          | inl f => exact ⟨fun f' hf' => by cases hf'; exact bad_tr fc2 (p1 f hv), fun y hy => by cases hy⟩
          | inr z =>
            obtain ⟨c3, f3, h3, e3⟩ := p2 z hv
            have ms := pfa_ms l4 e _ _ _ s2 hv
            have pz : rP (pskx u l (andp a x)) = skp u l (rP x) := by show skp u l (rP (andp a x)) = _; rw [pa]
            have r := rec m rfl true b z c3 j (by have := ms.2; omega) h3 ms.1
            rw [e3]
            refine ⟨fun f hf' => bad_tr (fq_tr fc2 f3) (r.1 f hf'), fun y hy => ?_⟩
            obtain ⟨c', a', b', x', g1, g2⟩ := r.2 y hy
            exact ⟨c', a', b', x', fq_tr (fq_tr fc2 f3) g1, g2⟩
        · have ep : ptl u l (pfa u l e) (m + 1) b (andp a x) = pb (pfa u l e (por b (pskx u l (andp a x)))) (ptl u l (pfa u l e) m true) := by
            show (if kd u l (rP (andp a x)) = 20 then _ else if kd u l (rP (andp a x)) = 21 then _ else _) = _
            rw [if_neg (by rw [pa]; omega), if_pos (by rw [pa]; exact w)]
          rw [ep, ← comO]
          obtain ⟨p1, p2⟩ := hf _ _ c2 j (tau_ops hβ) h2 s2
          cases hv : pfa u l e (pskx u l (por b (andp a x))) with
          | inl f => exact ⟨fun f' hf' => by cases hf'; exact bad_tr fc2 (p1 f hv), fun y hy => by cases hy⟩
          | inr z =>
            obtain ⟨c3, f3, h3, e3⟩ := p2 z hv
            have ms := pfa_ms l4 e _ _ _ s2 hv
            have pz : rP (pskx u l (por b (andp a x))) = skp u l (rP x) := by show skp u l (rP (por b (andp a x))) = _; rw [rP_por, pa]
            have r := rec m rfl false true z c3 j (by have := ms.2; omega) h3 ms.1
            rw [e3]
            refine ⟨fun f hf' => bad_tr (fq_tr fc2 f3) (r.1 f hf'), fun y hy => ?_⟩
            obtain ⟨c', a', b', x', g1, g2⟩ := r.2 y hy
            exact ⟨c', a', b', x', fq_tr (fq_tr fc2 f3) g1, g2⟩
    · have ep : ptl u l (pfa u l e) m b (andp a x) = .inr (por b (andp a x)) := by
        cases m with
        | zero => rfl
        | succ m =>
          show (if kd u l (rP (andp a x)) = 20 then _ else if kd u l (rP (andp a x)) = 21 then _ else _) = _
          rw [if_neg (by rw [pa]; omega), if_neg (by rw [pa]; omega)]
      rw [ep]
      exact ⟨fun f hf' => (by cases hf'), fun y hy => by cases hy; exact ⟨c, a, b, x, fq_rf, h, hs, rfl, by omega, by omega, rfl⟩⟩
  induction m with
  | zero => exact fun a b x c j hm h hs => key 0 a b x c j hm h hs (fun m' e => by omega)
  | succ m ih => exact fun a b x c j hm h hs => key (m + 1) a b x c j hm h hs (fun m' e => by cases e; exact ih)
end Test2
