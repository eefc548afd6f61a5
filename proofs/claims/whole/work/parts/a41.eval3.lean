/-! ===== rules: what tests come to ===== -/
section Eval3
variable {u : Nat → Nat} {l s0 : Nat} {x y : Ps} {j : Nat} {f : (Nat → Int64) → List Int64}
theorem ev_pcmp (l4 : l ≤ 400) (sl : SL l j x) (h : Ev s0 x f) (e : pcmp u l x = .inr y) : Pre x y ∧ rK x < rK y ∧ ∃ v : (Nat → Int64) → Int64, is01 v ∧ Ev s0 y (fun w => v w :: f w) := by
  unfold pcmp at e
  cases h1 : psum u l x with
  | inl f => rw [h1] at e; cases e
  | inr a =>
    rw [h1] at e
    have r1 := psum_ms l4 sl h1
    obtain ⟨p1, v1, w1⟩ := ev_psum l4 sl h h1
    have e1 : pb (psgn u l a) (fun z => pb (psum u l z) (fun w => .inr (pput ((psig (kd u l (rP a))).getD 0) w))) = .inr y := e
    cases h2 : psgn u l a with
    | inl f => rw [h2] at e1; cases e1
    | inr b =>
      rw [h2] at e1
      have r2 := psgn_ms r1.1 h2
      obtain ⟨s, hs⟩ := r2.2.2
      have eb : Pre a b ∧ Ev s0 b (fun w => v1 w :: f w) := by
        unfold psgn at h2
        rw [hs] at h2
        have h2' : (if 60 ≤ rV a then (Sum.inl (flt (rP a) 3) : Pr) else .inr (pskx u l (pinc a))) = .inr b := h2
        split at h2'
        · cases h2'
        · cases h2'
          exact ⟨⟨Nat.le_refl _, fun _ _ => rfl⟩, ev_sk (ev_inc (by omega) w1)⟩
      have e2 : pb (psum u l b) (fun w => .inr (pput ((psig (kd u l (rP a))).getD 0) w)) = .inr y := e1
      cases h3 : psum u l b with
      | inl f => rw [h3] at e2; cases e2
      | inr w =>
        rw [h3] at e2
        have r3 := psum_ms l4 r2.1 h3
        obtain ⟨p3, v3, w3⟩ := ev_psum l4 r2.1 eb.2 h3
        rw [hs] at e2
        cases e2
        have sr : 24 ≤ s ∧ s ≤ 28 := by
          unfold psig at hs
          split at hs
          · cases hs; omega
          · split at hs
            · cases hs; omega
            · split at hs
              · cases hs; omega
              · split at hs
                · cases hs; omega
                · split at hs
                  · cases hs; omega
                  · cases hs
        have sp := sl_put (s := s) l4 r3.1
        have kx : rK x ≤ rK w := Nat.le_trans p1.1 (Nat.le_trans eb.1.1 p3.1)
        refine ⟨pre_tr p1 (pre_tr eb.1 (pre_tr p3 pre_put)), ?_, _, fun ww => jn_cmp sr.1 sr.2 _ _, ev_bin (s := s) (by omega) (by omega) l4 r3.1 w3⟩
        show rK x < rK (pput s w)
        rw [sp.2.2]
        show rK x < rK w + 1
        omega
def stt (f : (Nat → Int64) → List Int64) (b : Bool) (a v : (Nat → Int64) → Int64) : (Nat → Int64) → List Int64 := match b with | false => fun w => v w :: f w | true => fun w => v w :: a w :: f w
theorem ev_por {b : Bool} {a v : (Nat → Int64) → Int64} (l4 : l ≤ 400) (ha : is01 a) (hv : is01 v) (sl : SL l (j + (if b = true then 1 else 0)) x) (h : Ev s0 x (stt f b a v)) : Pre x (por b x) ∧ ∃ v : (Nat → Int64) → Int64, is01 v ∧ Ev s0 (por b x) (fun w => v w :: f w) := by
  cases b with
  | false => exact ⟨pre_rf _, v, hv, h⟩
  | true => exact ⟨pre_put, _, fun w => jn_or (ha w) (hv w), ev_bin (s := 30) (by decide) (by decide) l4 sl h⟩
def EvF (u : Nat → Nat) (l : Nat) (pf : Ps → Pr) : Prop := ∀ (s0 : Nat) (f : (Nat → Int64) → List Int64) (x y : Ps) (j : Nat), SL l j x → Ev s0 x f → pf x = .inr y → Pre x y ∧ rK x < rK y ∧ ∃ v : (Nat → Int64) → Int64, is01 v ∧ Ev s0 y (fun w => v w :: f w)
theorem ev_ptl {pf : Ps → Pr} (l4 : l ≤ 400) (hpf : ∀ x y j, SL l j x → pf x = .inr y → SL l j y ∧ rP x ≤ rP y) (hE : EvF u l pf) : ∀ (m : Nat) (b : Bool) (a v : (Nat → Int64) → Int64) (x y : Ps) (j : Nat), is01 a → is01 v → SL l (j + (if b = true then 1 else 0)) x → Ev s0 x (stt f b a v) → ptl u l pf m b x = .inr y → Pre x y ∧ ∃ v : (Nat → Int64) → Int64, is01 v ∧ Ev s0 y (fun w => v w :: f w)
  | 0, b, a, v, x, y, j, ha, hv, hs, h, e => by
    have e' : (Sum.inr (por b x) : Pr) = .inr y := e
    cases e'
    exact ev_por l4 ha hv hs h
  | m + 1, b, a, v, x, y, j, ha, hv, hs, h, e => by
    have e' : (if kd u l (rP x) = 20 then pb (pf (pskx u l x)) (fun y => ptl u l pf m b (pput 29 y)) else if kd u l (rP x) = 21 then pb (pf (por b (pskx u l x))) (ptl u l pf m true) else (Sum.inr (por b x) : Pr)) = .inr y := e
    split at e'
    · rename_i hk
      have pl := kd_lt_l (u := u) (l := l) (x := x) (by omega)
      cases hv' : pf (pskx u l x) with
      | inl f => rw [hv'] at e'; cases e'
      | inr z =>
        rw [hv'] at e'
        have s1 := hpf _ _ _ (sl_sk (u := u) pl hs) hv'
        obtain ⟨p1, -, g, g1, g2⟩ := hE s0 _ _ _ _ (sl_sk (u := u) pl hs) (ev_sk h) hv'
        have h2 : ∃ v' : (Nat → Int64) → Int64, is01 v' ∧ Ev s0 (pput 29 z) (stt f b a v') := by
          cases b with
          | false => exact ⟨_, fun w => jn_and (hv w) (g1 w), ev_bin (a := v) (b := g) (s := 29) (by decide) (by decide) l4 s1.1 g2⟩
          | true => exact ⟨_, fun w => jn_and (hv w) (g1 w), ev_bin (f := fun w => a w :: f w) (a := v) (b := g) (s := 29) (by decide) (by decide) l4 s1.1 g2⟩
        obtain ⟨v', i1, i2⟩ := h2
        obtain ⟨p2, r⟩ := ev_ptl l4 hpf hE m b a v' (pput 29 z) y j ha i1 (sl_put l4 s1.1).2.1 i2 e'
        exact ⟨pre_tr (show Pre x z from p1) (pre_tr pre_put p2), r⟩
    · split at e'
      · rename_i hk
        have pl := kd_lt_l (u := u) (l := l) (x := x) (by omega)
        cases hv' : pf (por b (pskx u l x)) with
        | inl f => rw [hv'] at e'; cases e'
        | inr z =>
          rw [hv'] at e'
          have s0' : SL l (j + 1 + (if b = true then 1 else 0)) (pskx u l x) := sl_le (sl_sk (u := u) pl hs) (by omega)
          obtain ⟨p0, a', i1, i2⟩ := ev_por l4 ha hv s0' (ev_sk h)
          have s1 := hpf _ _ _ (sl_por l4 s0') hv'
          obtain ⟨p1, -, g, g1, g2⟩ := hE s0 _ _ _ _ (sl_por l4 s0') i2 hv'
          obtain ⟨p2, r⟩ := ev_ptl l4 hpf hE m true a' g z y j i1 g1 s1.1 g2 e'
          exact ⟨pre_tr (show Pre x (por b (pskx u l x)) from p0) (pre_tr p1 p2), r⟩
      · cases e'
        exact ev_por l4 ha hv hs h
theorem not01 {a : Int64} (h : a = 0 ∨ a = 1) : 1 - a = 0 ∨ 1 - a = 1 := by
  rcases h with e | e <;> subst e <;> decide
theorem ev_pfa (l4 : l ≤ 400) : ∀ e, EvF u l (pfa u l e)
  | 0 => fun s0 f x y j hs h e => by
    have h' : (if kd u l (rP x) = 22 ∨ kd u l (rP x) = 191 then (Sum.inl (flt (rP x) 2) : Pr) else pcmp u l x) = .inr y := e
    split at h'
    · cases h'
    · exact ev_pcmp l4 hs h h'
  | e + 1 => fun s0 f x y j hs h e0 => by
    have h' : (if kd u l (rP x) = 22 then pb (pfa u l e (pskx u l x)) (fun y => .inr (pput 31 y)) else if kd u l (rP x) = 191 then pb (pb (pfa u l e (pskx u l x)) (ptl u l (pfa u l e) 400 false)) (pcls u l) else pcmp u l x) = .inr y := e0
    split at h'
    · rename_i hk
      have pl := kd_lt_l (u := u) (l := l) (x := x) (by omega)
      cases hv : pfa u l e (pskx u l x) with
      | inl f => rw [hv] at h'; cases h'
      | inr z =>
        rw [hv] at h'
        have s1 := pfa_ms l4 e _ _ _ (sl_sk (u := u) pl hs) hv
        obtain ⟨p1, k1, g, g1, g2⟩ := ev_pfa l4 e s0 f _ _ _ (sl_sk (u := u) pl hs) (ev_sk h) hv
        cases h'
        have k1' : rK x < rK z := k1
        exact ⟨pre_tr (show Pre x z from p1) pre_put, Nat.lt_of_lt_of_le k1' pre_put.1, _, fun w => not01 (g1 w), ev_not l4 s1.1 g2⟩
    · split at h'
      · rename_i hk
        have pl := kd_lt_l (u := u) (l := l) (x := x) (by omega)
        cases hv : pfa u l e (pskx u l x) with
        | inl f => rw [hv] at h'; cases h'
        | inr z =>
          rw [hv] at h'
          have s1 := pfa_ms l4 e _ _ _ (sl_sk (u := u) pl hs) hv
          obtain ⟨p1, k1, g, g1, g2⟩ := ev_pfa l4 e s0 f _ _ _ (sl_sk (u := u) pl hs) (ev_sk h) hv
          have h2 : pb (ptl u l (pfa u l e) 400 false z) (pcls u l) = .inr y := h'
          cases hw : ptl u l (pfa u l e) 400 false z with
          | inl f => rw [hw] at h2; cases h2
          | inr w =>
            rw [hw] at h2
            obtain ⟨p2, g', i1, i2⟩ := ev_ptl l4 (fun x y j => pfa_ms l4 e x y j) (ev_pfa l4 e) 400 false g g z w (j + 1) g1 g1 s1.1 g2 hw
            have h3 : pcls u l w = .inr y := h2
            unfold pcls at h3
            split at h3
            · cases h3
              have k1' : rK x < rK z := k1
              exact ⟨pre_tr (show Pre x z from p1) (show Pre z (pskx u l w) from p2), Nat.lt_of_lt_of_le k1' p2.1, g', i1, ev_sk i2⟩
            · cases h3
      · exact ev_pcmp l4 hs h h'
theorem ev_ptest (l4 : l ≤ 400) (sl : SL l j x) (h : Ev s0 x f) (e : ptest u l x = .inr y) : Pre x y ∧ rK x < rK y ∧ (∃ v : (Nat → Int64) → Int64, is01 v ∧ Ev s0 y (fun w => v w :: f w)) ∧ SL l j y ∧ rP x ≤ rP y := by
  unfold ptest at e
  cases hv : pfa u l 10 x with
  | inl f => rw [hv] at e; cases e
  | inr z =>
    rw [hv] at e
    have s1 := pfa_ms l4 10 _ _ _ sl hv
    obtain ⟨p1, k1, g, g1, g2⟩ := ev_pfa l4 10 s0 f _ _ _ sl h hv
    have e' : ptl u l (pfa u l 10) 400 false z = .inr y := e
    obtain ⟨p2, r⟩ := ev_ptl l4 (fun x y j => pfa_ms l4 10 x y j) (ev_pfa l4 10) 400 false g g z y j g1 g1 s1.1 g2 e'
    have s2 := ptl_ms l4 (fun x y j => pfa_ms l4 10 x y j) 400 false z y j s1.1 e'
    exact ⟨pre_tr p1 p2, Nat.lt_of_lt_of_le k1 p2.1, r, s2.1, by have := s1.2; have := s2.2; omega⟩
end Eval3
