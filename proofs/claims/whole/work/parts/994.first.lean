/-! ===== fits, who, first, next: both alike ===== -/
section Mon
variable {S : Nat → Int32} {R D H Q : Nat}
/-- nothing fits the first so many -/
def em (S : Nat → Int32) (R D H k : Nat) : Prop := sn (wy S R D H k (mx S k)) (R ^ lc S H) = 0
theorem nw_mono {f g : Nat → Nat} (h : ∀ s, s < R ^ lc S H → f s ≤ g s) (t : Nat) : nw S R D H f t ≤ nw S R D H g t := sn_le fun s hs => Nat.mul_le_mul_right _ (h s hs)
theorem ft_mono {k m : Nat} {f g : Nat → Nat} {s : Nat} (h : f s ≤ g s) : ft S R H (k + 1) m f s ≤ ft S R H k m g s := by
  unfold ft
  by_cases w : atb S H m (qs S R H s) (k + 1) = true
  · have w' : atb S H m (qs S R H s) k = true := by
      cases e : atb S H m (qs S R H s) k with
      | true => rfl
      | false => rw [atb_f (Nat.le_succ k) e] at w; exact w
    rw [if_pos w, if_pos w']; exact h
  · rw [if_neg w]; exact Nat.zero_le _
theorem wy_mono {k : Nat} : ∀ (m : Nat) (s : Nat), wy S R D H (k + 1) m s ≤ wy S R D H k m s
  | 0, s => ft_mono (Nat.le_refl _)
  | m + 1, s => ft_mono (nw_mono (fun t _ => wy_mono m t) s)
theorem wy_z {k m : Nat} (h : ∀ s, s < R ^ lc S H → wy S R D H k m s = 0) : ∀ j s, s < R ^ lc S H → wy S R D H k (m + j) s = 0
  | 0, s, hs => h s hs
  | j + 1, s, hs => by
    have ih := wy_z h j
    show ft S R H k (m + j + 1) (nw S R D H (wy S R D H k (m + j))) s = 0
    unfold ft
    split
    · exact sn_z fun t ht => by rw [ih t ht, Nat.zero_mul]
    · rfl
theorem mx_mono (k : Nat) : mx S k ≤ mx S (k + 1) := by
  show _ ≤ if mx S k < (S (184 + 3 * k)).toNatClampNeg then (S (184 + 3 * k)).toNatClampNeg else mx S k
  split <;> omega
theorem em_s {k : Nat} (h : em S R D H k) : em S R D H (k + 1) := by
  have h0 : ∀ s, s < R ^ lc S H → wy S R D H (k + 1) (mx S k) s = 0 := fun s hs => Nat.le_zero.mp (Nat.le_trans (wy_mono _ _) (Nat.le_of_eq (sn_0 (f := wy S R D H k (mx S k)) h hs)))
  have m := mx_mono (S := S) k
  refine sn_z fun s hs => ?_
  have := wy_z h0 (mx S (k + 1) - mx S k) s hs
  rw [show mx S k + (mx S (k + 1) - mx S k) = mx S (k + 1) by omega] at this
  exact this
theorem em_m {k : Nat} (h : em S R D H k) : ∀ j, em S R D H (k + j)
  | 0 => h
  | j + 1 => em_s (em_m h j)
theorem em_0 (hq : Qok S R H (q0 S)) : ¬ em S R D H 0 := fun h => by
  have := sn_0 (f := wy S R D H 0 (mx S 0)) h (kc_lt hq)
  have e : wy S R D H 0 (mx S 0) (kc S R H (q0 S)) = 1 := by
    show ft S R H 0 0 (fun s => if s = kc S R H (q0 S) then 1 else 0) (kc S R H (q0 S)) = 1
    unfold ft
    rw [if_pos (show atb S H 0 _ 0 = true from rfl)]
    exact if_pos rfl
  omega
theorem cnt_em {f : Nat → Nat} {N : Nat} : sn (fun s => if f s = 0 then 0 else 1) N = 0 ↔ sn f N = 0 := by
  constructor
  · intro h
    refine sn_z fun s hs => ?_
    have := sn_0 h hs
    by_cases w : f s = 0
    · exact w
    · rw [if_neg w] at this; exact absurd this (by decide)
  · intro h
    exact sn_z fun s hs => if_pos (sn_0 h hs)
end Mon
/-- the search's numbers, if they are said to be those of the world -/
def SUM (c7 : Cl) (sr : Nat) (S : Nat → Int32) (R D H : Nat) : Prop := 0 < R → ¬ cI c7 1 sr = 0 → SU c7 sr S R H (wy S R D H (S 220).toNatClampNeg (mx S (S 220).toNatClampNeg))
/-- what a call that searches leaves -/
def SQ (c6 c7 c12 c13 : Cl) (d : Ad) (sc sr : Nat) (S : Nat → Int32) (R D H : Nat) (L0 : List Nat) (Z Z' : Nat) (c6' c7' c12' c13' : Cl) (d' : Ad) : Prop := Kp [0, 1, 2, 3, 4, 5, 6, 7, 8, 9, 10, 11, 12, 13, 14, 15] c6 c6' ∧ Oth sc c6 c6' ∧ Kp [1, 2, 3, 4, 5, 6, 7, 8, 9, 10, 11, 12] c7 c7' ∧ Oth sr c7 c7' ∧ SUM c7' sr S R D H ∧ RZt c6' c13' d' sc d c13 L0 Z Z' 260 ∧ Kp [24, 26, 27, 28, 40, 41, 42] c12 c12'
section First
variable {c1 c6 c7 c8 c10 c11 c12 c13 : Cl} {d : Ad} {B B2 sc sr w : Nat} {S : Nat → Int32} {A : Nat → Nat} {X R D H Q M L E P Pq P' Pq' Z Z' : Nat} {K : Nat → Nat}
theorem rz_wk {c6 c13 : Cl} {d : Ad} {sc : Nat} {d0 : Ad} {c0 : Cl} {L0 : List Nat} {Z0 Z0' k j : Nat} (h : RZt c6 c13 d sc d0 c0 L0 Z0 Z0' k) (hk : k ≤ j) : RZt c6 c13 d sc d0 c0 L0 Z0 Z0' j := by
  obtain ⟨P, Pq, P', Pq', Z, Z', a, b, e, g, i, o⟩ := h
  exact ⟨P, Pq, P', Pq', Z, Z', a, b, e, g, ms_wk i hk, o⟩
theorem sq_rf (hr : Rows c6 d sc P Pq P' Pq' Z Z') (hz : ∀ s, s < Z → cB c13 0 P s = 0) (hz' : ∀ s, s < Z' → cB c13 0 P' s = 0) (hs : SUM c7 sr S R D H) : SQ c6 c7 c12 c13 d sc sr S R D H [P, Pq, P', Pq'] Z Z' c6 c7 c12 c13 d := ⟨kp_rf _ _, oth_rf _ _, kp_rf _ _, oth_rf _ _, hs, ⟨P, Pq, P', Pq', Z, Z', hr, hz, hz', rm_rf _ _, ms_rf _ _ _ _, ofa_rf _ _ _⟩, kp_rf _ _⟩
/-- what is told, out of a world -/
theorem told_ok {W : Nat → Int32} {U : Nat} {x : Int32} (h : WR c1 c8 c10 w A S W U x X R D H Q L K) : ∃ k, k ≤ 12 ∧ cI c10 5 w = nI k ∧ S 220 = nI k ∧ (S 220).toNatClampNeg = k ∧ TdC c10 w S k ∧ TdR S Q k := by
  obtain ⟨-, -, -, -, -, -, k, k12, t1, t2, t3⟩ := h
  refine ⟨k, k12, t1, t2, by rw [t2, nI_clamp (by omega)], fun i hi => ?_, fun i hi => ?_⟩
  · obtain ⟨a, b, e, -⟩ := t3 i hi
    exact ⟨a, b, e⟩
  · obtain ⟨-, -, -, a, b, e⟩ := t3 i hi
    exact ⟨a, b, e⟩
/-- the class sums up, within a call -/
theorem sum_ok (hS : SR c1 c8 (cR c10 0 w) S R D H Q M L E K) (hR0 : 0 < R) {k : Nat} (k12 : k ≤ 12) (hk : cI c10 5 w = nI k) (ek : (S 220).toNatClampNeg = k) (hT : TdR S Q k) (hc : TdC c10 w S k) (e7 : cR c7 0 sr = sc) (hr : Rows c6 d sc P Pq P' Pq' Z Z') (hz : ∀ s, s < Z → cB c13 0 P s = 0) (hz' : ∀ s, s < Z' → cB c13 0 P' s = 0) (hs : SUM c7 sr S R D H) : Rn (F_63 c1 c6 c7 c8 c10 c13 d sr w) (fun q => SU q.2.1 sr S R H (wy S R D H k (mx S k)) ∧ Kp [1, 2, 3, 4, 5, 6, 7] c7 q.2.1 ∧ (∀ c12', Kp [24, 26, 27, 28, 40, 41, 42] c12 c12' → SQ c6 c7 c12 c13 d sc sr S R D H [P, Pq, P', Pq'] Z Z' q.1 q.2.1 c12' q.2.2.1 q.2.2.2) ∧ Kp [0, 1, 2, 3, 4, 5, 6, 7, 8, 9, 10, 11, 12, 13, 14, 15] c6 q.1 ∧ Oth sc c6 q.1 ∧ Oth sr c7 q.2.1 ∧ RZt q.1 q.2.2.1 q.2.2.2 sc d c13 [P, Pq, P', Pq'] Z Z' 18) := by
  refine rn_m (f_63 (c6 := c6) (c7 := c7) (c13 := c13) (d := d) (sr := sr) hS hR0 k12 hT hc hk e7 hr hz hz' (fun z => by have := hs hR0 z; rw [ek] at this; exact this)) (fun q ⟨b1, b2, b3, b4, b5, b6⟩ => ⟨b5, b3, fun c12' k12' => ⟨b1, b2, kp_wd b3 (by decide), b4, fun _ _ => by rw [ek]; exact b5, rz_wk b6 (by decide), k12'⟩, b1, b2, b4, b6⟩)
theorem q_fits (h : WM c1 c8 c10 c12 B2 (cR c11 7 B) A X R D H Q L K) (hP : Pw c12 B2) (esr : cR c11 12 B = sr) (e7 : cR c7 0 sr = sc) (hr : Rows c6 d sc P Pq P' Pq' Z Z') (hz : ∀ s, s < Z → cB c13 0 P s = 0) (hz' : ∀ s, s < Z' → cB c13 0 P' s = 0) (hs : SUM c7 sr (cA c12 20 B2) R D H) : ∃ rx rm, F_140 c1 c6 c7 c8 c10 c11 c13 d B = some rx ∧ F_264 c12 B2 = some rm ∧ rx.1 = rm.1 ∧ SQ c6 c7 c12 c13 d sc sr (cA c12 20 B2) R D H [P, Pq, P', Pq'] Z Z' rx.2.1 rx.2.2.1 rm.2 rx.2.2.2.1 rx.2.2.2.2 := by
  obtain ⟨U, hU, hw⟩ := id h
  obtain ⟨k, k12, t1, t2, t3, t4, t5⟩ := told_ok hw
  obtain ⟨a1, a2, a3, ⟨M, E, m9, s⟩, -⟩ := id hw
  have s' := s
  rw [← a1] at s'
  have hN := s'.1.1
  unfold F_140 F_264
  by_cases q : hh1 R = 0
  · exact ⟨_, _, ob_mk (f_157 hN) (in_pos q rfl), ob_mk (f_218 hN) (ob_mk (in_pos q rfl) rfl), rfl, sq_rf hr hz hz' hs⟩
  have hR0 : 0 < R := Nat.pos_of_ne_zero fun e => q (by unfold hh1; rw [e]; rfl)
  obtain ⟨rx, x1, x2, x3, x4, -⟩ := sum_ok (c6 := c6) (c7 := c7) (c12 := c12) (c13 := c13) (d := d) (sr := sr) s' hR0 k12 t1 t3 t5 t4 e7 hr hz hz' hs
  obtain ⟨rm, m1, m2, m3, m4⟩ := f_263 (c0 := c12) (B2 := B2) (k := k) s hR0 rfl hP k12 t5
  refine ⟨(cJ rx.2.1 2 sr, rx.1, rx.2.1, rx.2.2.1, rx.2.2.2), (rm.1, rm.2), ob_mk (f_157 hN) (in_neg q (by rw [esr]; exact ob_mk x1 rfl)), ob_mk (f_218 hN) (ob_mk (in_neg q (ob_mk (ald_ok (i := 220) (by decide) (by decide)) (by rw [t2]; exact ob_mk m1 rfl))) rfl), ?_, x4 rm.2 (kp_wd m4 (by decide))⟩
  dsimp only
  rw [x2.1, m2]
theorem q_who {p1 : Int32} (h : WM c1 c8 c10 c12 B2 (cR c11 7 B) A X R D H Q L K) (hP : Pw c12 B2) (esr : cR c11 12 B = sr) (e7 : cR c7 0 sr = sc) (hr : Rows c6 d sc P Pq P' Pq' Z Z') (hz : ∀ s, s < Z → cB c13 0 P s = 0) (hz' : ∀ s, s < Z' → cB c13 0 P' s = 0) (hs : SUM c7 sr (cA c12 20 B2) R D H) : ∃ rx rm, F_141 c1 c6 c7 c8 c10 c11 c13 d B p1 = some rx ∧ F_265 c12 B2 p1 = some rm ∧ rx.1 = rm.1 ∧ SQ c6 c7 c12 c13 d sc sr (cA c12 20 B2) R D H [P, Pq, P', Pq'] Z Z' rx.2.1 rx.2.2.1 rm.2 rx.2.2.2.1 rx.2.2.2.2 := by
  obtain ⟨U, hU, hw⟩ := id h
  obtain ⟨k, k12, t1, t2, t3, t4, t5⟩ := told_ok hw
  obtain ⟨a1, a2, a3, ⟨M, E, m9, s⟩, -⟩ := id hw
  have s' := s
  rw [← a1] at s'
  have hN := s'.1.1
  obtain ⟨⟨-, -, r6⟩, -, ⟨-, -, h6⟩, -⟩ := id hN
  have f1 := f_159 (c11 := c11) (B := B) (p := p1) hN s'.1.2.1
  unfold F_141 F_265
  rcases is1_of (n := H) (p := p1) (by omega) with q | ⟨q, i, hi, rfl⟩
  · rw [if_pos q] at f1
    exact ⟨_, _, ob_mk f1 (in_pos rfl rfl), ob_mk (f_221 hN) (in_pos q rfl), rfl, sq_rf hr hz hz' hs⟩
  have q0' : ¬ is1 H (nI i) = 0 := by rw [q]; decide
  rw [if_neg q0', nI_clamp (by omega)] at f1
  by_cases v : lv (cA c12 20 B2) i = 0
  · rw [if_pos v] at f1
    exact ⟨_, _, ob_mk f1 (in_pos rfl rfl), ob_mk (f_221 hN) (in_neg q0' (ob_mk (f_224 (by omega)) (in_pos v rfl))), rfl, sq_rf hr hz hz' hs⟩
  rw [if_neg v] at f1
  have hR0 : 0 < R := Nat.lt_of_le_of_lt (Nat.zero_le _) (q0_lt s hi v)
  obtain ⟨rx, x1, x2, x3, x4, -⟩ := sum_ok (c6 := c6) (c7 := c7) (c12 := c12) (c13 := c13) (d := d) (sr := sr) s' hR0 k12 t1 t3 t5 t4 e7 hr hz hz' hs
  obtain ⟨rm, m1, m2, m3, m4⟩ := f_263 (c0 := c12) (B2 := B2) (k := k) s hR0 rfl hP k12 t5
  have b := wy_b (S := cA c12 20 B2) (D := D) (k := k) (m := mx (cA c12 20 B2) k) hR0 r6 h6 (mx_8 t5) (q0_ok s)
  have g := gl_265 (c := rm.2) (h := i) s hR0 (pw_k m4 (by decide) hP) hi v (fun s hs => Nat.lt_of_le_of_lt (sn_1 (f := wy (cA c12 20 B2) R D H k (mx (cA c12 20 B2) k)) hs) b) m3 46656 0 rfl
  simp only [anyb] at g
  rw [mk_z (fun r _ => rfl)] at g
  refine ⟨(cA rx.2.1 6 sr i, rx.1, rx.2.1, rx.2.2.1, rx.2.2.2), _, ob_mk f1 (in_neg (by decide) (by rw [esr]; exact ob_mk x1 (ob_mk (ald_ok (by omega) (by decide)) rfl))), ob_mk (f_221 hN) (in_neg q0' (ob_mk (f_224 (by omega)) (in_neg v (ob_mk (ald_ok (i := 220) (by decide) (by decide)) (by rw [t2]; exact ob_mk m1 g))))), ?_, x4 rm.2 (kp_wd m4 (by decide))⟩
  dsimp only
  rw [x2.2.2.1 i hi v]
theorem q_next {p1 : Int32} (h : WM c1 c8 c10 c12 B2 (cR c11 7 B) A X R D H Q L K) (hP : Pw c12 B2) (esr : cR c11 12 B = sr) (e7 : cR c7 0 sr = sc) (hr : Rows c6 d sc P Pq P' Pq' Z Z') (hz : ∀ s, s < Z → cB c13 0 P s = 0) (hz' : ∀ s, s < Z' → cB c13 0 P' s = 0) (hs : SUM c7 sr (cA c12 20 B2) R D H) : ∃ rx rm, F_143 c1 c6 c7 c8 c10 c11 c13 d B p1 = some rx ∧ F_268 c12 B2 p1 = some rm ∧ rx.1 = rm.1 ∧ SQ c6 c7 c12 c13 d sc sr (cA c12 20 B2) R D H [P, Pq, P', Pq'] Z Z' rx.2.1 rx.2.2.1 rm.2 rx.2.2.2.1 rx.2.2.2.2 := by
  obtain ⟨U, hU, hw⟩ := id h
  obtain ⟨k, k12, t1, t2, t3, t4, t5⟩ := told_ok hw
  obtain ⟨a1, a2, a3, ⟨M, E, m9, s⟩, -⟩ := id hw
  have s' := s
  rw [← a1] at s'
  have hN := s'.1.1
  obtain ⟨⟨-, -, r6⟩, -, ⟨-, -, h6⟩, -⟩ := id hN
  have e1 : F_170 p1.toInt64 0 2 = some (if p1 < 0 then 0 else if 2 < p1 then 0 else 1) := f_170 p1 0 2
  unfold F_143 F_268
  by_cases q : hh1 R = 0
  · exact ⟨_, _, ob_mk (f_157 hN) (in_pos q rfl), ob_mk (f_218 hN) (in_pos q rfl), rfl, sq_rf hr hz hz' hs⟩
  have hR0 : 0 < R := Nat.pos_of_ne_zero fun e => q (by unfold hh1; rw [e]; rfl)
  by_cases w1 : p1 < 0
  · rw [if_pos w1] at e1
    exact ⟨_, _, ob_mk (f_157 hN) (in_neg q (in_pos w1 rfl)), ob_mk (f_218 hN) (in_neg q (ob_mk e1 (in_pos rfl rfl))), rfl, sq_rf hr hz hz' hs⟩
  rw [if_neg w1] at e1
  by_cases w2 : 2 < p1
  · rw [if_pos w2] at e1
    exact ⟨_, _, ob_mk (f_157 hN) (in_neg q (in_neg w1 (in_neg (Int32.not_le.mpr w2) rfl))), ob_mk (f_218 hN) (in_neg q (ob_mk e1 (in_pos rfl rfl))), rfl, sq_rf hr hz hz' hs⟩
  rw [if_neg w2] at e1
  obtain ⟨rx, x1, x2, x3, x4, -⟩ := sum_ok (c6 := c6) (c7 := c7) (c12 := c12) (c13 := c13) (d := d) (sr := sr) s' hR0 k12 t1 t3 t5 t4 e7 hr hz hz' hs
  obtain ⟨rm, m1, m2, m3, m4⟩ := f_263 (c0 := c12) (B2 := B2) (k := k) s hR0 rfl hP k12 t5
  have b := wy_b (S := cA c12 20 B2) (D := D) (k := k) (m := mx (cA c12 20 B2) k) hR0 r6 h6 (mx_8 t5) (q0_ok s)
  obtain ⟨S, eS⟩ : ∃ S, S = cA c12 20 B2 := ⟨_, rfl⟩
  rw [← eS] at x2 m3 b s
  obtain ⟨f, ef⟩ : ∃ f, f = wy S R D H k (mx S k) := ⟨_, rfl⟩
  rw [← ef] at x2 m3 b
  have fb : ∀ s, s < R ^ lc S H → f s < 2 ^ 60 := fun s hs => Nat.lt_of_le_of_lt (sn_1 (f := f) hs) b
  have g := gl_268a (c := rm.2) (x1 := p1) s hR0 fb m3 46656 0 rfl
  have cl : sn (fun s => if f s = 0 then 0 else 1) (R ^ lc S H) ≤ 46656 := by
    have := sn_le (f := fun s => if f s = 0 then 0 else 1) (g := fun _ => 1) (n := R ^ lc S H) (fun i _ => by show (if f i = 0 then 0 else 1) ≤ 1; split <;> omega)
    rw [sn_k, Nat.mul_one] at this
    exact Nat.le_trans this (pow_sz r6 h6)
  have sq := fun c12' hk => x4 c12' hk
  have eS2 : cA rm.2 20 B2 = S := by rw [(m4 20 (by decide)).2.2.2.1, eS]
  have hP2 := pw_k (B2 := B2) m4 (by decide) hP
  have head : ∀ {y : Option (Int32 × Cl)} {v : Int32 × Cl}, G_268 B2 0 [p1, nI (sn (fun s => if f s = 0 then 0 else 1) (R ^ lc S H)), 46656] [] [] rm.2 = some v → (F_218 c12 B2 >>= fun r1 => if r1 = 0 then some ((-1), c12) else F_170 ((p1 : Int32).toInt64) 0 2 >>= fun r3 => if r3 = 0 then some ((-1), c12) else ald (cA c12 20 B2) 221 220 >>= fun v5 => F_263 c12 B2 v5 >>= fun r6 => G_268 B2 0 [p1, 0, 0] [] [] r6.2) = some v := fun {y v} hv => ob_mk (f_218 hN) (in_neg q (ob_mk e1 (in_neg (by decide) (ob_mk (ald_ok (i := 220) (by decide) (by decide)) (by rw [t2]; exact ob_mk m1 (g.trans hv))))))
  by_cases v1 : p1 = 1
  · refine ⟨(cI rx.2.1 3 sr, rx.1, rx.2.1, rx.2.2.1, rx.2.2.2), (nI (sn (fun s => if f s = 0 then 0 else 1) (R ^ lc S H)), rm.2), ob_mk (f_157 hN) (in_neg q (in_neg w1 (in_pos (Int32.not_lt.mp w2) (by rw [esr]; exact ob_mk x1 (in_pos v1 rfl))))), head (y := none) ?_, ?_, sq _ (kp_wd m4 (by decide))⟩
    · rw [G_268]; exact in_pos (by decide) (in_pos v1 rfl)
    · dsimp only; exact x2.2.1
  by_cases v2 : sn (fun s => if f s = 0 then 0 else 1) (R ^ lc S H) = 0
  · refine ⟨(-2, rx.1, rx.2.1, rx.2.2.1, rx.2.2.2), (-2, rm.2), ob_mk (f_157 hN) (in_neg q (in_neg w1 (in_pos (Int32.not_lt.mp w2) (by rw [esr]; exact ob_mk x1 (in_neg v1 (in_pos (by rw [x2.2.1, v2]; rfl) rfl)))))), head (y := none) ?_, rfl, sq _ (kp_wd m4 (by decide))⟩
    rw [G_268, v2]; exact in_pos (by decide) (in_neg v1 (in_pos rfl rfl))
  obtain ⟨ra, y1, y2, y3⟩ := f_267 (c0 := rm.2) (r := 0) s hR0 eS2 hP2 hR0 fb m3
  obtain ⟨rb, z1, z2, z3⟩ := gl_268b (c0 := rm.2) (x1 := p1) s hR0 eS2 hP2 fb m3 (R - 1) 0 ra.2 (by omega) y3
  have z1' : G_268 B2 1 [p1, 0, ra.1, 1] [] [] ra.2 = some rb := by rw [y2]; exact z1
  have t12 : ((if p1 = 0 then some (cI rx.2.1 4 sr) else some (cI rx.2.1 5 sr)) : Option Int32) = some (if p1 = 0 then cI rx.2.1 4 sr else cI rx.2.1 5 sr) := by
    by_cases z : p1 = 0
    · rw [if_pos z, if_pos z]
    · rw [if_neg z, if_neg z]
  refine ⟨(if p1 = 0 then cI rx.2.1 4 sr else cI rx.2.1 5 sr, rx.1, rx.2.1, rx.2.2.1, rx.2.2.2), rb, ob_mk (f_157 hN) (in_neg q (in_neg w1 (in_pos (Int32.not_lt.mp w2) (by rw [esr]; exact ob_mk x1 (in_neg v1 (in_neg (by rw [x2.2.1]; exact nI_ne0 (by omega) (by omega)) (ob_mk t12 rfl))))))), head (y := none) ?_, ?_, sq _ (kp_tr (kp_wd m4 (by decide)) (kp_wd z3 (by decide)))⟩
  · rw [G_268]
    exact in_pos (by decide) (in_neg v1 (in_neg (nI_ne0 (by omega) (by omega)) (ob_mk y1 z1')))
  · dsimp only
    rw [z2, x2.2.2.2.1, x2.2.2.2.2]
end First
