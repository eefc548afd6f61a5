/-! ===== house: which clause it is ===== -/
section Clauses
variable {c c1 c2 c3 c12 : Cl} {rd hr ho B2 : Nat} {u : Nat → Nat} {l n p q : Nat} {R D H Q : Nat}
def hwd (k : Nat) : Prop := k = 0 ∨ (12 ≤ k ∧ k ≤ 17)
/-- a word, looked at once more -/
theorem f_180p {i : Nat} {w : Int64} (hu : ∀ j, u j < 256) (l4 : l ≤ 400) (hi : i < 23) (hw : w = lN (WL.getD i 0)) (hR : RP c B2 u l n) (hp : sk u l n = p) : Rn (F_180 c B2 w) (fun r => Kp [8] c r.2 ∧ RP r.2 B2 u l p ∧ ((kd u l p = i ∧ r.1 = 1) ∨ (kd u l p ≠ i ∧ r.1 = 0))) := by
  refine rn_m (f_180 hu l4 hi hw hR) (fun r ⟨a, b, e⟩ => ?_)
  rw [hp] at b e
  refine ⟨a, b, ?_⟩
  by_cases z : kd u l p = i
  · rw [if_pos z] at e; exact Or.inl ⟨z, e⟩
  · rw [if_neg z] at e; exact Or.inr ⟨z, e⟩
theorem f_208 (hu : ∀ j, u j < 256) (l4 : l ≤ 400) (hR : RP c B2 u l n) (hp : sk u l n = p) : Rn (F_208 c B2) (fun r => Kp [8] c r.2 ∧ RP r.2 B2 u l p ∧ ((hwd (kd u l p) ∧ r.1 = 1) ∨ (¬ hwd (kd u l p) ∧ r.1 = 0))) := by
  have pp : sk u l p = p := by rw [← hp]; exact sk_sk
  unfold F_208
  refine rn_b (f_180p (i := 12) hu l4 (by decide) rfl hR hp) (fun r1 ⟨k1, R1, h1⟩ => ?_)
  refine rn_b (P := fun t => Kp [8] c t.2 ∧ RP t.2 B2 u l p ∧ ((hwd (kd u l p) ∧ t.1 = 1) ∨ (¬ hwd (kd u l p) ∧ t.1 = 0))) ?_ (fun t ⟨t1, t2, t3⟩ => ?_)
  · have yes : ∀ {r : Int32 × Cl} (i : Nat), kd u l p = i → (i = 0 ∨ (12 ≤ i ∧ i ≤ 17)) → Kp [8] c r.2 → RP r.2 B2 u l p → Rn (some ((1 : Int32), r.2)) (fun t => Kp [8] c t.2 ∧ RP t.2 B2 u l p ∧ ((hwd (kd u l p) ∧ t.1 = 1) ∨ (¬ hwd (kd u l p) ∧ t.1 = 0))) := fun {r} i h hi k R => rn_r ⟨k, R, Or.inl ⟨by rw [h]; exact hi, rfl⟩⟩
    rcases h1 with ⟨h1, e1⟩ | ⟨h1, e1⟩
    · exact rn_n (by rw [e1]; decide) (yes 12 h1 (by omega) k1 R1)
    refine rn_p e1 (rn_b (f_180p (i := 13) hu l4 (by decide) rfl R1 pp) (fun r2 ⟨k2, R2, h2⟩ => ?_))
    rcases h2 with ⟨h2, e2⟩ | ⟨h2, e2⟩
    · exact rn_n (by rw [e2]; decide) (yes 13 h2 (by omega) (kp_tr k1 k2) R2)
    refine rn_p e2 (rn_b (f_180p (i := 0) hu l4 (by decide) rfl R2 pp) (fun r3 ⟨k3, R3, h3⟩ => ?_))
    rcases h3 with ⟨h3, e3⟩ | ⟨h3, e3⟩
    · exact rn_n (by rw [e3]; decide) (yes 0 h3 (by omega) (kp_tr (kp_tr k1 k2) k3) R3)
    refine rn_p e3 (rn_b (f_180p (i := 14) hu l4 (by decide) rfl R3 pp) (fun r4 ⟨k4, R4, h4⟩ => ?_))
    rcases h4 with ⟨h4, e4⟩ | ⟨h4, e4⟩
    · exact rn_n (by rw [e4]; decide) (yes 14 h4 (by omega) (kp_tr (kp_tr (kp_tr k1 k2) k3) k4) R4)
    refine rn_p e4 (rn_b (f_180p (i := 15) hu l4 (by decide) rfl R4 pp) (fun r5 ⟨k5, R5, h5⟩ => ?_))
    rcases h5 with ⟨h5, e5⟩ | ⟨h5, e5⟩
    · exact rn_n (by rw [e5]; decide) (yes 15 h5 (by omega) (kp_tr (kp_tr (kp_tr (kp_tr k1 k2) k3) k4) k5) R5)
    refine rn_p e5 (rn_b (f_180p (i := 16) hu l4 (by decide) rfl R5 pp) (fun r6 ⟨k6, R6, h6⟩ => ?_))
    rcases h6 with ⟨h6, e6⟩ | ⟨h6, e6⟩
    · exact rn_n (by rw [e6]; decide) (yes 16 h6 (by omega) (kp_tr (kp_tr (kp_tr (kp_tr (kp_tr k1 k2) k3) k4) k5) k6) R6)
    refine rn_p e6 (rn_b (f_180p (i := 17) hu l4 (by decide) rfl R6 pp) (fun r7 ⟨k7, R7, h7⟩ => ?_))
    have kk := kp_tr (kp_tr (kp_tr (kp_tr (kp_tr (kp_tr k1 k2) k3) k4) k5) k6) k7
    rcases h7 with ⟨h7, e7⟩ | ⟨h7, e7⟩
    · exact rn_n (by rw [e7]; decide) (yes 17 h7 (by omega) kk R7)
    · refine rn_p e7 (rn_r ⟨kk, R7, Or.inr ⟨fun z => ?_, rfl⟩⟩)
      unfold hwd at z
      omega
  · rcases t3 with ⟨a, b⟩ | ⟨a, b⟩
    · rw [b]; exact rn_e zb_1 (rn_r ⟨t1, t2, Or.inl ⟨a, rfl⟩⟩)
    · rw [b]; exact rn_e zb_0 (rn_r ⟨t1, t2, Or.inr ⟨a, rfl⟩⟩)
theorem zb_ok {r : Int32 × Cl} (h : r.1 = 0 ∨ r.1 = 1) : (zb r.1 >>= fun z => some (z, r.2)) = some r := by
  rcases h with h | h
  · rw [h, zb_0]; show some ((0 : Int32), r.2) = _; rw [← h]
  · rw [h, zb_1]; show some ((1 : Int32), r.2) = _; rw [← h]
/-- which function a clause goes to, by the reference -/
theorem ch_207 (hu : ∀ j, u j < 256) (l4 : l ≤ 400) (hR : RP c B2 u l n) (hp : sk u l n = p) (y0 : ¬ cA c 7 B2 0 = 0) (hw : hwd (kd u l p)) : ∃ c', Kp [8] c c' ∧ RP c' B2 u l p ∧ (∀ r : Int32 × Cl, (r.1 = 0 ∨ r.1 = 1) → ((kd u l p = 12 → F_200 c' B2 (nI p) = some r) ∧ (kd u l p = 13 → F_202 c' B2 (nI p) = some r) ∧ (kd u l p = 0 → F_203 c' B2 (nI p) = some r) ∧ (kd u l p = 14 → F_204 c' B2 76 0 5 = some r) ∧ (kd u l p = 15 → F_204 c' B2 82 1 99 = some r) ∧ (kd u l p = 16 → F_205 c' B2 (nI p) = some r) ∧ (kd u l p = 17 → F_206 c' B2 (nI p) = some r)) → F_207 c B2 (nI p) = some r) := by
  have pp : sk u l p = p := by rw [← hp]; exact sk_sk
  obtain ⟨r1, g1, k1, R1, h1⟩ := f_180p (c := c) (B2 := B2) (w := 491495845235) (i := 12) hu l4 (by decide) rfl hR hp
  rcases h1 with ⟨h1, e1⟩ | ⟨h1, e1⟩
  · refine ⟨r1.2, k1, R1, fun r hr h => ?_⟩
    unfold F_207
    exact ob_mk g1 (in_neg (by rw [e1]; decide) (ob_mk (h.1 h1) (zb_ok hr)))
  have v3 : ald (cA r1.2 7 B2) 94 0 = some (cA c 7 B2 0) := (ald_ok (i := 0) (by decide) (by decide)).trans (by rw [(k1 7 (by decide)).2.2.2.1])
  obtain ⟨r2, g2, k2, R2, h2⟩ := f_180p (c := r1.2) (B2 := B2) (w := 1685024626) (i := 13) hu l4 (by decide) rfl R1 pp
  have kk2 := kp_tr k1 k2
  rcases h2 with ⟨h2, e2⟩ | ⟨h2, e2⟩
  · refine ⟨r2.2, kk2, R2, fun r hr h => ?_⟩
    unfold F_207
    exact ob_mk g1 (in_pos e1 (ob_mk v3 (in_neg y0 (ob_mk g2 (in_neg (by rw [e2]; decide) (ob_mk (h.2.1 h2) (zb_ok hr)))))))
  obtain ⟨r3, g3, k3, R3, h3⟩ := f_180p (c := r2.2) (B2 := B2) (w := 1751474532) (i := 0) hu l4 (by decide) rfl R2 pp
  have kk3 := kp_tr kk2 k3
  rcases h3 with ⟨h3, e3⟩ | ⟨h3, e3⟩
  · refine ⟨r3.2, kk3, R3, fun r hr h => ?_⟩
    unfold F_207
    exact ob_mk g1 (in_pos e1 (ob_mk v3 (in_neg y0 (ob_mk g2 (in_pos e2 (ob_mk g3 (in_neg (by rw [e3]; decide) (ob_mk (h.2.2.1 h3) (zb_ok hr)))))))))
  obtain ⟨r4, g4, k4, R4, h4⟩ := f_180p (c := r3.2) (B2 := B2) (w := 431198331257) (i := 14) hu l4 (by decide) rfl R3 pp
  have kk4 := kp_tr kk3 k4
  rcases h4 with ⟨h4, e4⟩ | ⟨h4, e4⟩
  · refine ⟨r4.2, kk4, R4, fun r hr h => ?_⟩
    unfold F_207
    exact ob_mk g1 (in_pos e1 (ob_mk v3 (in_neg y0 (ob_mk g2 (in_pos e2 (ob_mk g3 (in_pos e3 (ob_mk g4 (in_neg (by rw [e4]; decide) (ob_mk (h.2.2.2.1 h4) (zb_ok hr)))))))))))
  obtain ⟨r5, g5, k5, R5, h5⟩ := f_180p (c := r4.2) (B2 := B2) (w := 1836020596) (i := 15) hu l4 (by decide) rfl R4 pp
  have kk5 := kp_tr kk4 k5
  rcases h5 with ⟨h5, e5⟩ | ⟨h5, e5⟩
  · refine ⟨r5.2, kk5, R5, fun r hr h => ?_⟩
    unfold F_207
    exact ob_mk g1 (in_pos e1 (ob_mk v3 (in_neg y0 (ob_mk g2 (in_pos e2 (ob_mk g3 (in_pos e3 (ob_mk g4 (in_pos e4 (ob_mk g5 (in_neg (by rw [e5]; decide) (ob_mk (h.2.2.2.2.1 h5) (zb_ok hr)))))))))))))
  obtain ⟨r6, g6, k6, R6, h6⟩ := f_180p (c := r5.2) (B2 := B2) (w := 495622976357) (i := 16) hu l4 (by decide) rfl R5 pp
  refine ⟨r6.2, kp_tr kk5 k6, R6, fun r hr h => ?_⟩
  unfold F_207
  refine ob_mk g1 (in_pos e1 (ob_mk v3 (in_neg y0 (ob_mk g2 (in_pos e2 (ob_mk g3 (in_pos e3 (ob_mk g4 (in_pos e4 (ob_mk g5 (in_pos e5 (ob_mk g6 (ob_mk (v := r) ?_ (zb_ok hr))))))))))))))
  rcases h6 with ⟨h6, e6⟩ | ⟨h6, e6⟩
  · exact in_neg (by rw [e6]; decide) (ob_mk (h.2.2.2.2.2.1 h6) rfl)
  · have h17 : kd u l p = 17 := by unfold hwd at hw; omega
    exact in_pos e6 (ob_mk (h.2.2.2.2.2.2 h17) rfl)
def OHx (rd hr ho B2 : Nat) (u : Nat → Nat) (l : Nat) (c1 c2 c3 c12 : Cl) (R : Nat) (rx : Cl × Cl × Cl) (rm : Int32 × Cl) : Prop := Oth ho c1 rx.1 ∧ (Kp [1] c2 rx.2.1 ∧ Oth hr c2 rx.2.1) ∧ (Kp [6, 7] c3 rx.2.2 ∧ Oth rd c3 rx.2.2) ∧ Kp [7, 8, 9, 10, 14] c12 rm.2 ∧ ((rm.1 = 1 ∧ ∃ p D H Q, HS rd hr ho B2 u l rx.1 rx.2.1 rx.2.2 rm.2 p R D H Q) ∨ (rm.1 = 0 ∧ FO rd B2 u l rx.2.2 rm.2))
theorem OH_tr {c3' c12' : Cl} {rx : Cl × Cl × Cl} {rm : Int32 × Cl} (k3 : Kp [6, 7] c3 c3') (o3 : Oth rd c3 c3') (k12 : Kp [7, 8, 9, 10, 14] c12 c12') (h : OH rd hr ho B2 u l c1 c2 c3' c12' R rx rm) : OHx rd hr ho B2 u l c1 c2 c3 c12 R rx rm := ⟨h.1, h.2.1, ⟨kp_tr k3 h.2.2.1.1, oth_tr o3 h.2.2.1.2⟩, kp_tr k12 (kp_wd h.2.2.2.1 (by decide)), h.2.2.2.2⟩
theorem OH_b {rx : Cl × Cl × Cl} {rm : Int32 × Cl} (h : OH rd hr ho B2 u l c1 c2 c3 c12 R rx rm) : rm.1 = 0 ∨ rm.1 = 1 := by rcases h.2.2.2.2 with ⟨a, _⟩ | ⟨a, _⟩; exact Or.inr a; exact Or.inl a
/-- a clause behind the first, both alike -/
theorem cl_ok {cn : Nat} (hu : ∀ j, u j < 256) (l4 : l ≤ 400) (r1 : 1 ≤ R) (r6 : R ≤ 6) (hcn : 1 ≤ cn) (hcn2 : cn ≤ 40) (h11 : cI c12 11 B2 = 6) (h14 : cI c12 14 B2 = nI cn) (hS : HS rd hr ho B2 u l c1 c2 c3 c12 p R D H Q) : ∃ rx rm, F_16 c1 c2 c3 hr ho (nI cn) = some rx ∧ F_209 c12 B2 = some rm ∧ OHx rd hr ho B2 u l c1 c2 c3 c12 R rx rm ∧ (rm.1 = 1 → cI rm.2 14 B2 = nI (cn + 1) ∧ cn < 40) := by
  obtain ⟨hH, e2, hd, h7, ⟨n, hR, hp⟩, h9⟩ := hS
  have pl := RD_le hd
  have kb := kd_b (l := l) (p := p) hu
  have pp : sk u l p = p := by rw [← hp]; exact sk_sk
  obtain ⟨⟨n0, m0⟩, ⟨n1, m1, d10⟩, ⟨n2, m2, h6⟩, ⟨n3, m3, q6⟩, -⟩ := id hH.1
  obtain ⟨s0, s1, s2, s3, -⟩ := f_177 hu l4 hR
  rw [hp] at s3
  have s8 : cI s0.2 8 B2 = nI p := s3.2.2.1
  have s11 : cI s0.2 11 B2 = 6 := by rw [(s2 11 (by decide)).1]; exact h11
  obtain ⟨r8, g1, g2, g3, g4⟩ := f_208 (c := s0.2) (B2 := B2) hu l4 s3 pp
  have kk : Kp [8] c12 r8.2 := kp_tr s2 g2
  have hm0 : ∀ {v : Int32 × Cl}, ((if r8.1 = 0 then G_209 r8.2 B2 0 [nI p] [] [] else G_209 r8.2 B2 1 [nI p, 1] [] []) : Option (Int32 × Cl)) = some v → F_209 c12 B2 = some v := fun {v} e => by
    unfold F_209
    refine ob_mk s1 ?_
    rw [s11, s8]
    exact ob_mk (v := (1 : Int32)) (if_pos rfl) (in_neg (by decide) (ob_mk g1 e))
  -- both refuse
  have ref : ∀ (w : Nat) (cm : Cl), w < 8 → Kp [8, 14] c12 cm → F_16 c1 c2 c3 hr ho (nI cn) = (F_28 c3 rd (nI w) >>= fun r => some (c1, c2, r)) → (∀ v, (F_176 cm B2 (nI w) (nI p) >>= fun r => zb r.1 >>= fun z => some (z, r.2)) = some v → F_209 c12 B2 = some v) → ∃ rx rm, F_16 c1 c2 c3 hr ho (nI cn) = some rx ∧ F_209 c12 B2 = some rm ∧ OHx rd hr ho B2 u l c1 c2 c3 c12 R rx rm ∧ (rm.1 = 1 → cI rm.2 14 B2 = nI (cn + 1) ∧ cn < 40) := fun w cm hw km hx hm => by
    obtain ⟨t, t1, t2, t3, t4, t5, -⟩ := f_28 (w := w) hd
    obtain ⟨v, v1, v2, v3, v4, -⟩ := f_176 (c := cm) (B2 := B2) (w := w) (p := p)
    refine ⟨(c1, c2, t), v, hx.trans (ob_mk t1 rfl), hm v (ob_mk v1 (zb_ok (Or.inl v2))), ⟨oth_rf _ _, ⟨kp_rf _ _, oth_rf _ _⟩, ⟨kp_wd t2 (by decide), t3⟩, kp_tr (kp_wd km (by decide)) (kp_wd v3 (by decide)), Or.inr ⟨v2, flt p w, p, t5 h7, v4 (by rw [(km 9 (by decide)).1]; exact h9), by unfold flt; omega, by unfold flt; omega, t4⟩⟩, fun z => ?_⟩
    rw [v2] at z
    exact absurd z (by decide)
  have f29 := f_29 hd
  have lab : ∀ {y : Option (Cl × Cl × Cl)}, hwd (kd u l p) → G_16 c1 c2 c3 hr ho 1 [nI cn, nI (kd u l p)] [] [] = y → F_16 c1 c2 c3 hr ho (nI cn) = y := fun {y} hw e => by
    unfold F_16
    rw [e2]
    refine ob_e f29 ?_
    unfold hwd at hw
    by_cases z : kd u l p = 0
    · rw [if_pos (by rw [z]; rfl)]; exact e
    · rw [if_neg (nI_ne0 (by omega) (by omega)), if_neg (show ¬ nI (kd u l p) < (12 : Int32) from nI_nlt (b := 12) (by omega) (by omega)), if_pos (show nI (kd u l p) ≤ (17 : Int32) from nI_le (b := 17) (by omega) (by omega))]; exact e
  have l2 : G_16 c1 c2 c3 hr ho 2 [] [] [] = (F_28 c3 rd (nI 4) >>= fun r => some (c1, c2, r)) := by rw [G_16, e2]; rfl
  rcases g4 with ⟨g4, g5⟩ | ⟨g4, g5⟩
  · have hm1 : ∀ {v : Int32 × Cl}, G_209 r8.2 B2 1 [nI p, 1] [] [] = some v → F_209 c12 B2 = some v := fun {v} e => hm0 (in_neg (by rw [g5]; decide) e)
    have r14 : cI r8.2 14 B2 = nI cn := by rw [(kk 14 (by decide)).1]; exact h14
    by_cases w40 : cn = 40
    · refine ref 4 r8.2 (by decide) (kp_wd kk (by decide)) (lab g4 ?_) (fun v e => hm1 ?_)
      · rw [G_16]
        rw [if_pos (show (40 : Int32) ≤ nI cn from nI_le (a := 40) (by omega) (by omega))]
        exact l2
      · rw [G_209, r14]
        exact ob_mk (v := (40 : Int32)) (if_neg (by decide)) (in_pos (by rw [w40]; rfl) e)
    · obtain ⟨m14, hm14⟩ : ∃ m14, m14 = sI r8.2 14 B2 (nI (cn + 1)) := ⟨_, rfl⟩
      have k14 : Kp [14] r8.2 m14 := by rw [hm14]; exact kp_I (by decide)
      have kz : Kp [8, 14] c12 m14 := kp_tr (kp_wd kk (by decide)) (kp_wd k14 (by decide))
      have e14 : cI m14 14 B2 = nI (cn + 1) := by rw [hm14, cI_same]
      have Rz : RP m14 B2 u l p := RP_k k14 (by decide) (by decide) (by decide) g3
      have e7z : cA m14 7 B2 = cA c12 7 B2 := by rw [(kz 7 (by decide)).2.2.2.1]
      have hm2 : ∀ {v : Int32 × Cl}, (v.1 = 0 ∨ v.1 = 1) → F_207 m14 B2 (nI p) = some v → F_209 c12 B2 = some v := fun {v} hv e => by
        refine hm1 ?_
        rw [G_209, r14]
        refine ob_mk (v := (40 : Int32)) (if_neg (by decide)) (in_neg (fun z => w40 ((nI_eq (a := cn) (b := 40) (by omega) (by omega)).mp z)) (ob_mk (v := m14) (by rw [hm14, nI_1]) (ob_mk (v := v) (in_neg (by decide) (ob_mk e rfl)) (zb_ok hv))))
      obtain ⟨cm, km, Rm, hch⟩ := ch_207 (c := m14) (B2 := B2) hu l4 Rz pp (by rw [e7z, m0]; exact nI_ne0 (by omega) (by omega)) g4
      have kcm : Kp [8, 14] c12 cm := kp_tr kz (kp_wd km (by decide))
      have e7m : cA cm 7 B2 = cA c12 7 B2 := by rw [(kcm 7 (by decide)).2.2.2.1]
      have n40 : ¬ (40 : Int32) ≤ nI cn := show ¬ nI 40 ≤ nI cn from nI_ge (by omega) (by omega)
      have ncn : ¬ nI cn = 0 := nI_ne0 (by omega) (by omega)
      by_cases w12 : kd u l p = 12
      · refine ref 4 cm (by decide) kcm (lab g4 ?_) (fun v e => ?_)
        · rw [G_16, if_neg n40]
          refine ob_e (v := (1 : Int32)) (if_pos (by rw [w12]; rfl)) (ob_e (v := (0 : Int32)) (if_neg ncn) ?_)
          rw [if_neg (by decide)]
          exact l2
        · have hv : v.1 = 0 ∨ v.1 = 1 := by
            obtain ⟨t, t1, t2, -⟩ := f_176 (c := cm) (B2 := B2) (w := 4) (p := p)
            rw [t1] at e
            have e' : (zb t.1 >>= fun z => some (z, t.2)) = some v := e
            rw [zb_ok (Or.inl t2)] at e'
            cases e'
            exact Or.inl t2
          refine hm2 hv (hch v hv ⟨fun _ => ?_, fun z => by omega, fun z => by omega, fun z => by omega, fun z => by omega, fun z => by omega, fun z => by omega⟩)
          unfold F_200
          refine ob_mk (v := nI R) ((ald_ok (i := 0) (by decide) (by decide)).trans (by rw [e7m, m0])) (in_neg (nI_nle (by omega) (by omega)) e)
      · -- a clause that may stand here
        have lab2 : ∀ {y : Option (Cl × Cl × Cl)} (b : Int32), F_17 c1 c2 hr ho (nI (kd u l p)) = some b → (if b = 0 then G_16 c1 c2 c3 hr ho 2 [] [] [] else F_31 c3 rd >>= fun r15 => F_18 c1 c2 r15 hr ho (nI (kd u l p)) >>= fun r16 => some (r16.1, r16.2.1, r16.2.2)) = y → F_16 c1 c2 c3 hr ho (nI cn) = y := fun {y} b hb e => by
          refine lab g4 ?_
          rw [G_16, if_neg n40]
          refine ob_e (v := (0 : Int32)) (if_neg (fun z => w12 ((nI_eq (a := kd u l p) (b := 12) (by omega) (by omega)).mp z))) (ob_e (v := (0 : Int32)) (if_neg ncn) ?_)
          rw [if_pos rfl, e2]
          exact ob_e hb e
        have full : F_17 c1 c2 hr ho (nI (kd u l p)) = some 0 → (∀ v : Int32 × Cl, (v.1 = 0 ∨ v.1 = 1) → (F_176 cm B2 4 (nI p) >>= fun r => zb r.1 >>= fun z => some (z, r.2)) = some v → F_207 m14 B2 (nI p) = some v) → ∃ rx rm, F_16 c1 c2 c3 hr ho (nI cn) = some rx ∧ F_209 c12 B2 = some rm ∧ OHx rd hr ho B2 u l c1 c2 c3 c12 R rx rm ∧ (rm.1 = 1 → cI rm.2 14 B2 = nI (cn + 1) ∧ cn < 40) := fun h17 h207 => by
          refine ref 4 cm (by decide) kcm (lab2 0 h17 ((if_pos rfl).trans l2)) (fun v e => ?_)
          have hv : v.1 = 0 ∨ v.1 = 1 := by
            obtain ⟨t, t1, t2, -⟩ := f_176 (c := cm) (B2 := B2) (w := 4) (p := p)
            rw [t1] at e
            have e' : (zb t.1 >>= fun z => some (z, t.2)) = some v := e
            rw [zb_ok (Or.inl t2)] at e'
            cases e'
            exact Or.inl t2
          exact hm2 hv (h207 v hv e)
        have go : F_17 c1 c2 hr ho (nI (kd u l p)) = some 1 → (∀ c3', Kp [6] c3 c3' → Oth rd c3 c3' → RD c3' rd u l (skp u l p) → cI c3' 7 rd = 0 → ∃ rx rm, F_18 c1 c2 c3' hr ho (nI (kd u l p)) = some rx ∧ ((rm.1 = 0 ∨ rm.1 = 1) → F_207 m14 B2 (nI p) = some rm) ∧ OH rd hr ho B2 u l c1 c2 c3' cm R rx rm) → ∃ rx rm, F_16 c1 c2 c3 hr ho (nI cn) = some rx ∧ F_209 c12 B2 = some rm ∧ OHx rd hr ho B2 u l c1 c2 c3 c12 R rx rm ∧ (rm.1 = 1 → cI rm.2 14 B2 = nI (cn + 1) ∧ cn < 40) := fun h17 hgo => by
          obtain ⟨c3', t1, t2, t3, t4⟩ := f_31 hd
          obtain ⟨rx, rm, v1, v2, v3⟩ := hgo c3' t2 t3 t4 (by rw [(t2 7 (by decide)).1]; exact h7)
          exact ⟨rx, rm, lab2 1 h17 ((if_neg (by decide)).trans (ob_mk t1 (ob_mk v1 rfl))), hm2 (OH_b v3) (v2 (OH_b v3)), OH_tr (kp_wd t2 (by decide)) t3 (kp_wd kcm (by decide)) v3, fun _ => ⟨by rw [(v3.2.2.2.1 14 (by decide)).1, (km 14 (by decide)).1]; exact e14, by omega⟩⟩
        have hHm : HR c1 ho (cA cm 7 B2) R D H Q (cI c2 1 hr) := by rw [e7m]; exact hH
        have h9m : cI cm 9 B2 = 0 := by rw [(kcm 9 (by decide)).1]; exact h9
        have sq : ∀ i, i < 23 → kd u l p = i → sk u l (le u l p) = skp u l p := fun i hi hk => (kd_wl hu hi hk).2.2.symm
        have hk : kd u l p = 0 ∨ kd u l p = 13 ∨ kd u l p = 14 ∨ kd u l p = 15 ∨ kd u l p = 16 ∨ kd u l p = 17 := by unfold hwd at g4; omega
        rcases hk with hk | hk | hk | hk | hk | hk
        · by_cases w : H < 6
          · refine go ?_ (fun c3' t2 t3 t4 t5 => ?_)
            · rw [hk]; unfold F_17; rw [n2]
              exact in_pos rfl (ob_mk (v := (1 : Int32)) (if_neg (show ¬ nI 6 ≤ nI H from nI_ge w (by decide))) rfl)
            · obtain ⟨rx, rm, v1, v2, v3⟩ := h_head (q := skp u l p) hu l4 r1 r6 hHm e2 t4 t5 Rm (sq 0 (by decide) hk) h9m w
              exact ⟨rx, rm, by rw [hk]; exact v1, fun hv => hch rm hv ⟨fun z => by omega, fun z => by omega, fun _ => v2, fun z => by omega, fun z => by omega, fun z => by omega, fun z => by omega⟩, v3⟩
          · refine full ?_ (fun v hv e => hch v hv ⟨fun z => by omega, fun z => by omega, fun _ => ?_, fun z => by omega, fun z => by omega, fun z => by omega, fun z => by omega⟩)
            · rw [hk]; unfold F_17; rw [n2]
              exact in_pos rfl (ob_mk (v := (0 : Int32)) (if_pos (show nI 6 ≤ nI H from nI_le (by omega) (by omega))) rfl)
            · unfold F_203
              exact ob_mk (v := nI H) ((ald_ok (i := 2) (by decide) (by decide)).trans (by rw [e7m, m2])) (in_pos (by rw [show H = 6 by omega]; rfl) e)
        · by_cases w : D < 10
          · refine go ?_ (fun c3' t2 t3 t4 t5 => ?_)
            · rw [hk]; unfold F_17; rw [n1]
              exact in_neg (by decide) (in_pos rfl (ob_mk (v := (1 : Int32)) (if_neg (show ¬ nI 10 ≤ nI D from nI_ge w (by decide))) rfl))
            · obtain ⟨rx, rm, v1, v2, v3⟩ := h_door (q := skp u l p) hu l4 r1 r6 hHm e2 t4 t5 Rm (sq 13 (by decide) hk) h9m w
              exact ⟨rx, rm, by rw [hk]; exact v1, fun hv => hch rm hv ⟨fun z => by omega, fun _ => v2, fun z => by omega, fun z => by omega, fun z => by omega, fun z => by omega, fun z => by omega⟩, v3⟩
          · refine full ?_ (fun v hv e => hch v hv ⟨fun z => by omega, fun _ => ?_, fun z => by omega, fun z => by omega, fun z => by omega, fun z => by omega, fun z => by omega⟩)
            · rw [hk]; unfold F_17; rw [n1]
              exact in_neg (by decide) (in_pos rfl (ob_mk (v := (0 : Int32)) (if_pos (show nI 10 ≤ nI D from nI_le (by omega) (by omega))) rfl))
            · unfold F_202
              exact ob_mk (v := nI D) ((ald_ok (i := 1) (by decide) (by decide)).trans (by rw [e7m, m1])) (in_pos (by rw [show D = 10 by omega]; rfl) e)
        · refine go ?_ (fun c3' t2 t3 t4 t5 => ?_)
          · rw [hk]; unfold F_17
            exact in_neg (by decide) (in_neg (by decide) (in_neg (by decide) (in_neg (by decide) rfl)))
          · obtain ⟨rx, rm, v1, v2, v3⟩ := h_room (q := skp u l p) (Or.inl ⟨rfl, rfl, rfl, rfl, rfl⟩) hu l4 r1 r6 hHm e2 t4 t5 Rm (sq 14 (by decide) hk) h9m
            exact ⟨rx, rm, by rw [hk]; exact v1, fun hv => hch rm hv ⟨fun z => by omega, fun z => by omega, fun z => by omega, fun _ => v2, fun z => by omega, fun z => by omega, fun z => by omega⟩, v3⟩
        · refine go ?_ (fun c3' t2 t3 t4 t5 => ?_)
          · rw [hk]; unfold F_17
            exact in_neg (by decide) (in_neg (by decide) (in_neg (by decide) (in_neg (by decide) rfl)))
          · obtain ⟨rx, rm, v1, v2, v3⟩ := h_room (q := skp u l p) (Or.inr ⟨rfl, rfl, rfl, rfl, rfl⟩) hu l4 r1 r6 hHm e2 t4 t5 Rm (sq 15 (by decide) hk) h9m
            exact ⟨rx, rm, by rw [hk]; exact v1, fun hv => hch rm hv ⟨fun z => by omega, fun z => by omega, fun z => by omega, fun z => by omega, fun _ => v2, fun z => by omega, fun z => by omega⟩, v3⟩
        · by_cases w : Q < 6
          · refine go ?_ (fun c3' t2 t3 t4 t5 => ?_)
            · rw [hk]; unfold F_17; rw [n3]
              exact in_neg (by decide) (in_neg (by decide) (in_pos rfl (ob_mk (v := (1 : Int32)) (if_neg (show ¬ nI 6 ≤ nI Q from nI_ge w (by decide))) rfl)))
            · obtain ⟨rx, rm, v1, v2, v3⟩ := h_sense (q := skp u l p) hu l4 r1 r6 hHm e2 t4 t5 Rm (sq 16 (by decide) hk) h9m w
              exact ⟨rx, rm, by rw [hk]; exact v1, fun hv => hch rm hv ⟨fun z => by omega, fun z => by omega, fun z => by omega, fun z => by omega, fun z => by omega, fun _ => v2, fun z => by omega⟩, v3⟩
          · refine full ?_ (fun v hv e => hch v hv ⟨fun z => by omega, fun z => by omega, fun z => by omega, fun z => by omega, fun z => by omega, fun _ => ?_, fun z => by omega⟩)
            · rw [hk]; unfold F_17; rw [n3]
              exact in_neg (by decide) (in_neg (by decide) (in_pos rfl (ob_mk (v := (0 : Int32)) (if_pos (show nI 6 ≤ nI Q from nI_le (by omega) (by omega))) rfl)))
            · unfold F_205
              exact ob_mk (v := nI Q) ((ald_ok (i := 3) (by decide) (by decide)).trans (by rw [e7m, m3])) (in_pos (by rw [show Q = 6 by omega]; rfl) e)
        · by_cases w : cI c2 1 hr = 0
          · refine go ?_ (fun c3' t2 t3 t4 t5 => ?_)
            · rw [hk]; unfold F_17
              exact in_neg (by decide) (in_neg (by decide) (in_neg (by decide) (in_pos rfl (ob_mk (v := (1 : Int32)) (if_pos w) rfl))))
            · obtain ⟨rx, rm, v1, v2, v3⟩ := h_linger (q := skp u l p) hu l4 hHm e2 t4 t5 Rm (sq 17 (by decide) hk) h9m w
              exact ⟨rx, rm, by rw [hk]; exact v1, fun hv => hch rm hv ⟨fun z => by omega, fun z => by omega, fun z => by omega, fun z => by omega, fun z => by omega, fun z => by omega, fun _ => v2⟩, v3⟩
          · refine full ?_ (fun v hv e => hch v hv ⟨fun z => by omega, fun z => by omega, fun z => by omega, fun z => by omega, fun z => by omega, fun z => by omega, fun _ => ?_⟩)
            · rw [hk]; unfold F_17
              exact in_neg (by decide) (in_neg (by decide) (in_neg (by decide) (in_pos rfl (ob_mk (v := (0 : Int32)) (if_neg w) rfl))))
            · rcases hH.2.2.2.2.2.2 with ⟨z, _⟩ | ⟨_, L, l9, y7, _⟩
              · exact absurd z w
              · unfold F_206
                exact ob_mk (v := nI L) ((ald_ok (i := 7) (by decide) (by decide)).trans (by rw [e7m, y7])) (in_neg (nI_pos (by omega)) e)
  · have hm1 : ∀ {v : Int32 × Cl}, G_209 r8.2 B2 0 [nI p] [] [] = some v → F_209 c12 B2 = some v := fun {v} e => hm0 (in_pos g5 e)
    refine ref 0 r8.2 (by decide) (kp_wd kk (by decide)) ?_ (fun v e => hm1 (by rw [G_209]; exact e))
    unfold F_16
    rw [e2]
    refine ob_e f29 ?_
    have g0 : G_16 c1 c2 c3 hr ho 0 [] [] [] = (F_28 c3 rd (nI 0) >>= fun r => some (c1, c2, r)) := by rw [G_16, e2]; rfl
    unfold hwd at g4
    rw [if_neg (nI_ne0 (by omega) (by omega))]
    by_cases z : kd u l p < 12
    · rw [if_pos (show nI (kd u l p) < (12 : Int32) from nI_lt (b := 12) z (by omega))]; exact g0
    · rw [if_neg (show ¬ nI (kd u l p) < (12 : Int32) from nI_nlt (b := 12) (by omega) (by omega)), if_neg (show ¬ nI (kd u l p) ≤ (17 : Int32) from nI_ge (b := kd u l p) (a := 17) (by omega) (by omega))]; exact g0
end Clauses
