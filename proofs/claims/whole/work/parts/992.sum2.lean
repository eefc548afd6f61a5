/-! ===== what situations sum up to: the class, whole ===== -/
/-- the numbers of the search are those of the world -/
def SU (c7 : Cl) (sr : Nat) (S : Nat → Int32) (R H : Nat) (f : Nat → Nat) : Prop := cJ c7 2 sr = lN (sn f (R ^ lc S H)) ∧ cI c7 3 sr = nI (sn (fun s => if f s = 0 then 0 else 1) (R ^ lc S H)) ∧ (∀ h, h < H → ¬ lv S h = 0 → cA c7 6 sr h = nI (mk (fe S R H f (R ^ lc S H) h) R)) ∧ cI c7 4 sr = nI (bs2 (fun r => mal (ga S R H f (R ^ lc S H) r) 25) (R - 1)).1 ∧ cI c7 5 sr = nI (bs2 (fun r => mal (ga S R H f (R ^ lc S H) r) 25) (R - 1)).2
section Sum2
variable {c1 c6 c7 c8 c10 c13 : Cl} {d : Ad} {sc sr st w : Nat} {S : Nat → Int32} {R D H Q M L E : Nat} {K : Nat → Nat}
theorem ga_le {f : Nat → Nat} {N r x : Nat} : ga S R H f N r x ≤ N := by
  unfold ga
  have := sn_le (f := fun s => if f s = 0 then 0 else if laN S H (qs S R H s) r = x then 1 else 0) (g := fun _ => 1) (n := N) (fun i _ => by
    show (if f i = 0 then 0 else if laN S H (qs S R H i) r = x then 1 else 0) ≤ 1
    split
    · omega
    · split <;> omega)
  rw [sn_k, Nat.mul_one] at this
  exact this
theorem rst_end {d0 : Ad} {c0 : Cl} {L0 : List Nat} {Z0 Z0' kx n : Nat} {f : Nat → Nat} (sz : R ^ lc S H ≤ 46656) (h : RSt c6 c13 d sc (R ^ lc S H) f n d0 c0 L0 Z0 Z0' kx) : Rn (F_56 c6 c13 d sc (nI n)) (fun r => RZt c6 r d sc d0 c0 L0 Z0 Z0' kx) := by
  obtain ⟨P, Pq, P', Pq', Z, Z', u, hr, hN, hA, hz, hm, hs, ho⟩ := h
  obtain ⟨⟨r1, r2, r3, r4⟩, ⟨a1, a2, a3, a4⟩, ⟨z1, z2⟩, ⟨x1, x2, x3, x4⟩, y1, y2, y3, y4, y5, y6⟩ := id hr
  refine rn_m (f_56 r1 r2 a1 a2 hN z1 hA) (fun r ⟨b1, b2, b3⟩ => ⟨P, Pq, P', Pq', Z, Z', hr, b3, fun s hs' => ?_, hm, hs, ?_⟩)
  · rw [(b1 0 P' (Ne.symm y2)).2.2.2.2.1]; exact hz s hs'
  · exact ofa_tr ho hm (ofa_o (ota_o b1 (by simp)))
/-- all are summed up -/
theorem gl_63 {d0 : Ad} {c0 c6z c7z : Cl} {L0 : List Nat} {Z0 Z0' kx n : Nat} {f : Nat → Nat} {P Pq Z N : Nat} {u : Nat → Nat} (hS : SR c1 c8 st S R D H Q M L E K) (hR0 : 0 < R) (eN : R ^ lc S H = N) (hA : AQ c13 P Pq N Z f n u) (hN : N ≤ Z) (hZ : Z ≤ 46656) (e12 : cR c6z 12 sc = P) (e14 : cR c6z 14 sc = Pq) (n1 : aN d P = Z) (n2 : aN d Pq = Z) (hrs : RSt c6z c13 d sc N f n d0 c0 L0 Z0 Z0' kx) (hC : SC c6z sc S R D H Q) (e7 : cR c7z 0 sr = sc) (c3 : cI c7z 3 sr = nI n) : ∀ (m j : Nat) (c6' c7' : Cl), j + m = n → Kp [10, 11] c6z c6' → Oth sc c6z c6' → Kp [2, 6, 7] c7z c7' → Oth sr c7z c7' → cJ c7' 2 sr = lN (sn (fun i => f (u i)) j) → EN c7' sr S R H (fun h r => anyb (fun i => decide (r = qs S R H (u i) h)) j) (fun r x => sn (fun i => if laN S H (qs S R H (u i)) r = x then 1 else 0) j) → Rn (G_63 c1 c8 c10 c13 d sr w 0 [nI n, nI j] [] [] c6' c7') (fun q => Kp [10, 11] c6z q.1 ∧ Oth sc c6z q.1 ∧ Kp [1, 2, 3, 4, 5, 6, 7] c7z q.2.1 ∧ Oth sr c7z q.2.1 ∧ cI q.2.1 1 sr = 1 ∧ SU q.2.1 sr S R H f ∧ q.2.2.2 = d ∧ RZt q.1 q.2.2.1 d sc d0 c0 L0 Z0 Z0' kx)
  | 0, j, c6', c7', hj, k6, o6, k7, o7, h2, h3 => by
    have : j = n := by omega
    subst this
    obtain ⟨⟨-, -, r6⟩, -, ⟨-, -, h6⟩, -⟩ := id hS.1.1
    have nN := aq_n hA
    have e0 : cR c7' 0 sr = sc := by rw [(k7 0 (by decide)).2.2.1]; exact e7
    have hrs' : RSt c6' c13 d sc N f j d0 c0 L0 Z0 Z0' kx := by
      obtain ⟨P, Pq, P', Pq', Z, Z', u, hr, g⟩ := hrs
      exact ⟨P, Pq, P', Pq', Z, Z', u, rows_k k6 (by decide) hr, g⟩
    have sz := pow_sz (S := S) r6 h6
    rw [G_63, e0]
    have gb : ∀ r x, r < R → x < 25 → sn (fun i => if laN S H (qs S R H (u i)) r = x then 1 else 0) j ≤ 46656 := fun r x _ _ => by
      have := sn_le (f := fun i => if laN S H (qs S R H (u i)) r = x then 1 else 0) (g := fun _ => 1) (n := j) (fun i _ => by show (if laN S H (qs S R H (u i)) r = x then 1 else 0) ≤ 1; split <;> omega)
      rw [sn_k, Nat.mul_one] at this
      omega
    rw [← eN] at hrs'
    refine rn_p (nI_le (Nat.le_refl _) (by omega)) (rn_b (rst_end sz hrs') (fun r11 g1 => rn_b (f_65 (SC_k k6 (by decide) hC) hR0 r6 e0 gb h3.2) (fun r12 ⟨b1, b2, b3, b4⟩ => rn_s (rn_r ⟨k6, o6, kp_tr (kp_wd k7 (by decide)) (kp_tr (kp_wd b1 (by decide)) (kp_I (by decide))), oth_tr o7 (oth_tr b2 oth_I), by dsimp only; rw [cI_same], ?_, rfl, g1⟩))))
    have ge : ∀ r x, sn (fun i => if laN S H (qs S R H (u i)) r = x then 1 else 0) j = ga S R H f (R ^ lc S H) r x := fun r x => by
      unfold ga
      rw [eN]
      rw [← aq_sum hA (G := fun s => if f s = 0 then 0 else if laN S H (qs S R H s) r = x then 1 else 0) (fun s _ z => if_pos z)]
      exact sn_cg fun i hi => (if_neg (hA.2.2.1 i hi).2.2).symm
    have me : (fun r => mal (fun x => sn (fun i => if laN S H (qs S R H (u i)) r = x then 1 else 0) j) 25) = fun r => mal (ga S R H f (R ^ lc S H) r) 25 := by
      funext r
      exact mal_cg fun x _ => ge r x
    dsimp only at b3 b4 ⊢
    refine ⟨?_, ?_, fun h hh hl => ?_, ?_, ?_⟩
    · rw [cJ_sI, (b1 2 (by decide)).2.1, h2, eN, aq_sum hA (G := f) (fun s _ z => z)]
    · rw [cI_sI, if_neg (fun z => absurd z.1 (by decide)), (b1 3 (by decide)).1, (k7 3 (by decide)).1, c3, eN, ← aq_cnt hA]
    · rw [cA_sI, (b1 6 (by decide)).2.2.2.1, h3.1 h hh hl]
      congr 1
      refine mk_cg fun r _ => ?_
      unfold fe
      rw [eN, Bool.eq_iff_iff, anyb_t, anyb_t]
      constructor
      · rintro ⟨i, hi, z⟩
        obtain ⟨x1, x2, x3⟩ := hA.2.2.1 i hi
        simp only [decide_eq_true_eq] at z
        exact ⟨u i, x2, by simp [x3, z]⟩
      · rintro ⟨s, hs, z⟩
        simp only [Bool.and_eq_true, decide_eq_true_eq] at z
        obtain ⟨i, hi, ei⟩ := hA.2.2.2.2 s hs z.1
        exact ⟨i, hi, by rw [ei]; simp [z.2]⟩
    · rw [cI_sI, if_neg (fun z => absurd z.1 (by decide)), b3, me]
    · rw [cI_sI, if_neg (fun z => absurd z.1 (by decide)), b4, me]
  | m + 1, j, c6', c7', hj, k6, o6, k7, o7, h2, h3 => by
    obtain ⟨⟨-, -, r6⟩, -, ⟨-, -, h6⟩, -⟩ := id hS.1.1
    have nN := aq_n hA
    obtain ⟨x1, x2, x3⟩ := hA.2.2.1 j (by omega)
    have e0 : cR c7' 0 sr = sc := by rw [(k7 0 (by decide)).2.2.1]; exact e7
    have c12' : cR c6' 12 sc = P := by rw [(k6 12 (by decide)).2.2.1]; exact e12
    have c14' : cR c6' 14 sc = Pq := by rw [(k6 14 (by decide)).2.2.1]; exact e14
    rw [G_63, e0, c12', c14', n1, n2]
    refine rn_n (nI_ge (by omega) (by omega)) (rn_ld (by omega) (by omega) ?_)
    rw [x1]
    refine rn_ll (by omega) (by omega) (rn_s ?_)
    rw [hA.1 _ x2, h2, lN_add]
    have e1 : cR (sJ c7' 2 sr (lN (sn (fun i => f (u i)) j + f (u j)))) 0 sr = sc := e0
    rw [e1, c14', n2]
    refine rn_ld (by omega) (by omega) ?_
    rw [x1]
    refine rn_b (f_64 (c6 := c6') (s := u j) (e := fun h r => anyb (fun i => decide (r = qs S R H (u i) h)) j) (g := fun r x => sn (fun i => if laN S H (qs S R H (u i)) r = x then 1 else 0) j) hS hR0 (SC_k k6 (by decide) hC) e1 (by rw [eN]; exact x2) ⟨fun h hh hl => by rw [cA_sJ]; exact h3.1 h hh hl, fun r x q1 q2 => by rw [cA_sJ]; exact h3.2 r x q1 q2⟩) (fun q ⟨b1, b2, b3, b4, b5⟩ => ?_)
    rw [nI_1]
    refine gl_63 hS hR0 eN hA hN hZ e12 e14 n1 n2 hrs hC e7 c3 m (j + 1) q.1 q.2 (by omega) (kp_tr k6 b1) (oth_tr o6 b2) (kp_tr k7 (kp_tr (kp_J (by decide)) (kp_wd b3 (by decide)))) (oth_tr o7 (oth_tr oth_J b4)) ?_ ⟨fun h hh hl => ?_, fun r x q1 q2 => ?_⟩
    · rw [(b3 2 (by decide)).2.1, cJ_sJ, if_pos ⟨rfl, rfl⟩]; rfl
    · exact b5.1 h hh hl
    · exact b5.2 r x q1 q2
theorem f_63 {P Pq P' Pq' Z Z' k : Nat} (hS : SR c1 c8 (cR c10 0 w) S R D H Q M L E K) (hR0 : 0 < R) (k12 : k ≤ 12) (hT : TdR S Q k) (hc : TdC c10 w S k) (hk : cI c10 5 w = nI k) (e7 : cR c7 0 sr = sc) (hr : Rows c6 d sc P Pq P' Pq' Z Z') (hz : ∀ s, s < Z → cB c13 0 P s = 0) (hz' : ∀ s, s < Z' → cB c13 0 P' s = 0) (hsum : ¬ cI c7 1 sr = 0 → SU c7 sr S R H (wy S R D H k (mx S k))) : Rn (F_63 c1 c6 c7 c8 c10 c13 d sr w) (fun q => Kp [0, 1, 2, 3, 4, 5, 6, 7, 8, 9, 10, 11, 12, 13, 14, 15] c6 q.1 ∧ Oth sc c6 q.1 ∧ Kp [1, 2, 3, 4, 5, 6, 7] c7 q.2.1 ∧ Oth sr c7 q.2.1 ∧ SU q.2.1 sr S R H (wy S R D H k (mx S k)) ∧ RZt q.1 q.2.2.1 q.2.2.2 sc d c13 [P, Pq, P', Pq'] Z Z' 18) := by
  obtain ⟨⟨-, -, r6⟩, -, ⟨-, -, h6⟩, -⟩ := id hS.1.1
  unfold F_63
  by_cases y : cI c7 1 sr = 0
  · refine rn_p y ?_
    rw [hk]
    refine rn_b (f_68 (c6 := c6) (c7 := c7) (c13 := c13) (d := d) (sr := sr) hS hR0 k12 hT hc e7 hr hz hz') (fun r2 ⟨b1, b2, b3, n, b4, b5⟩ => ?_)
    rw [b4]
    refine rn_s (rn_s (rn_s (rn_s ?_)))
    obtain ⟨c7a, hc7⟩ : ∃ c7a, c7a = sA (sA (sI (sJ c7 2 sr 0) 3 sr (nI n)) 6 sr (filf 6 0 (cA (sI (sJ c7 2 sr 0) 3 sr (nI n)) 6 sr))) 7 sr (filf 150 0 (cA (sA (sI (sJ c7 2 sr 0) 3 sr (nI n)) 6 sr (filf 6 0 (cA (sI (sJ c7 2 sr 0) 3 sr (nI n)) 6 sr))) 7 sr)) := ⟨_, rfl⟩
    rw [← hc7]
    obtain ⟨Pa, Pqa, Pa', Pqa', Za, Za', u, q1, q2, q3, q4⟩ := id b5
    obtain ⟨⟨r1, r2', -, -⟩, ⟨a1, a2, -, -⟩, ⟨z1, -⟩, -⟩ := id q1
    have k7a : Kp [2, 3, 6, 7] c7 c7a := by rw [hc7]; exact kp_tr (kp_J (by decide)) (kp_tr (kp_I (by decide)) (kp_tr (kp_A (by decide)) (kp_A (by decide))))
    have o7a : Oth sr c7 c7a := by rw [hc7]; exact oth_tr oth_J (oth_tr oth_I (oth_tr oth_A oth_A))
    refine rn_m (gl_63 (c6z := r2.2.1) (c7z := c7a) hS hR0 rfl q3 q2 z1 r1 r2' a1 a2 b5 b3 (by rw [(k7a 0 (by decide)).2.2.1]; exact e7) (by rw [hc7]; simp only [cI_sI, cI_sJ, cI_sR, cI_sA, cI_sB, cI_sQ, cR_sI, cR_sJ, cR_sR, cR_sA, cR_sB, cR_sQ, cA_sI, cA_sJ, cA_sR, cA_sA, cA_sB, cA_sQ, Nat.reduceEqDiff, false_and, and_false, and_true, true_and, if_false, if_true, and_self, ↓reduceIte]) n 0 r2.2.1 c7a (by omega) (kp_rf _ _) (oth_rf _ _) (kp_rf _ _) (oth_rf _ _) (by rw [hc7]; rw [cJ_sA, cJ_sA, cJ_sI, cJ_sJ, if_pos ⟨rfl, rfl⟩]; rfl) ⟨fun h hh hl => ?_, fun r x h1 h2 => ?_⟩) (fun q ⟨g1, g2, g3, g4, g5, g6, g7, g8⟩ => ⟨kp_tr b1 (kp_wd g1 (by decide)), oth_tr b2 g2, kp_tr (kp_wd k7a (by decide)) g3, oth_tr o7a g4, g6, by rw [g7]; exact g8⟩)
    · rw [hc7, cA_ne (by decide), cA_same]
      unfold filf
      rw [if_pos (by omega)]
      exact (congrArg nI (mk_z fun _ _ => rfl)).symm
    · rw [hc7, cA_same]
      unfold filf
      rw [if_pos (by omega)]; rfl
  · exact rn_n y (rn_r ⟨kp_rf _ _, oth_rf _ _, kp_rf _ _, oth_rf _ _, hsum y, P, Pq, P', Pq', Z, Z', hr, hz, hz', rm_rf _ _, ms_rf _ _ _ _, ofa_rf _ _ _⟩)
end Sum2
