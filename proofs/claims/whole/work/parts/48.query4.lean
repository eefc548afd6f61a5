/-! ===== room and door ===== -/
/-- what rooms hold, links, doors -/
def SmR (c1 c8 : Cl) (st : Nat) (S : Nat → Int32) (R : Nat) : Prop := ∀ r, r < R → cA c1 10 (cR c8 0 st) r = S (82 + r)
def SlR (c8 : Cl) (st : Nat) (S : Nat → Int32) (R D : Nat) : Prop := ∀ r, r < R → cA c8 12 st r = bs S (nI r) D
def SdR (c1 c8 : Cl) (st : Nat) (S : Nat → Int32) (R D : Nat) : Prop := ∀ i, i < D → cA c1 5 (cR c8 0 st) i = S (10 + 3 * i) ∧ cA c1 6 (cR c8 0 st) i = S (10 + 3 * i + 1) ∧ bit1 (cI c8 2 st) (nI i) = S (10 + 3 * i + 2) ∧ (∃ x y, x < R ∧ y < R ∧ x ≠ y ∧ S (10 + 3 * i) = nI x ∧ S (10 + 3 * i + 1) = nI y)
theorem f_85 (c8 : Cl) (st : Nat) (p : Int32) : F_85 c8 st p = some (bit1 (cI c8 2 st) p) := f_171 _ _
section Query4
variable {c1 c8 c10 c11 c12 : Cl} {B B2 R D H Q M : Nat} {K : Nat → Nat}
theorem q_room {p1 p2 : Int32} (hN : SnR c1 c8 (cR c10 0 (cR c11 7 B)) (cA c12 20 B2) R D H Q M) (hS : ShR c1 c8 (cR c10 0 (cR c11 7 B)) (cA c12 20 B2) H) (hC : ScR c1 c8 (cR c10 0 (cR c11 7 B)) (cA c12 20 B2) R H M K) (hm : SmR c1 c8 (cR c10 0 (cR c11 7 B)) (cA c12 20 B2) R) (hl : SlR c8 (cR c10 0 (cR c11 7 B)) (cA c12 20 B2) R D) : ∃ x, F_128 c1 c8 c10 c11 B p1 p2 = some x ∧ F_235 c12 B2 p1 p2 = some x := by
  obtain ⟨⟨-, hR, r6⟩, ⟨-, hD, d10⟩, ⟨-, hH, h6⟩, -, m1, m2, m3⟩ := id hN
  unfold F_128 F_235
  rcases is1_of (n := R) (p := p1) (by omega) with q | ⟨q, r, hr, rfl⟩
  · exact ⟨-1, ob_mk (f_160 hN) (in_pos q rfl), ob_mk (f_219 hN) (in_pos q rfl)⟩
  · have q0 : ¬ is1 R (nI r) = 0 := by rw [q]; decide
    obtain ⟨k1, k2, k3⟩ := hC.2.2.2 r hr
    by_cases a0 : p2 = 0
    · exact ⟨_, ob_mk (f_160 hN) (in_neg q0 (in_pos a0 (ob_mk (ald_ok (by omega) (by decide)) (by rw [hC.1 r hr])))), ob_mk (f_219 hN) (in_neg q0 (in_pos a0 (ob_mk (f_226 hH h6) rfl)))⟩
    by_cases a1 : p2 = 1
    · exact ⟨_, ob_mk (f_160 hN) (in_neg q0 (in_neg a0 (in_pos a1 (ob_mk (f_96 hr hN hC) rfl)))), ob_mk (f_219 hN) (in_neg q0 (in_neg a0 (in_pos a1 (ob_mk (f_230 hH h6 m2 (by omega) (by omega) (by omega) k2) rfl))))⟩
    by_cases a2 : p2 = 2
    · exact ⟨_, ob_mk (f_160 hN) (in_neg q0 (in_neg a0 (in_neg a1 (in_pos a2 (ob_mk (f_98 hN hS) rfl))))), ob_mk (f_219 hN) (in_neg q0 (in_neg a0 (in_neg a1 (in_pos a2 (ob_mk (f_234 hH h6) rfl)))))⟩
    by_cases a3 : p2 = 3
    · refine ⟨cA c12 20 B2 (82 + r), ob_mk (f_160 hN) (in_neg q0 (in_neg a0 (in_neg a1 (in_neg a2 (in_pos a3 (ob_mk (ald_ok (by omega) (by decide)) (by rw [hm r hr]))))))), ob_mk (f_219 hN) (in_neg q0 (in_neg a0 (in_neg a1 (in_neg a2 (in_pos a3 ?_)))))⟩
      rw [show (82 : Int32) + nI r = nI (82 + r) from nI_add 82 r]
      exact ob_mk (ald_ok (by omega) (by decide)) rfl
    by_cases a4 : p2 = 4
    · refine ⟨nI (K r), ob_mk (f_160 hN) (in_neg q0 (in_neg a0 (in_neg a1 (in_neg a2 (in_neg a3 (in_pos a4 (ob_mk (ald_ok (by omega) (by decide)) (by rw [k1])))))))), ob_mk (f_219 hN) (in_neg q0 (in_neg a0 (in_neg a1 (in_neg a2 (in_neg a3 (in_pos a4 ?_))))))⟩
      rw [show (76 : Int32) + nI r = nI (76 + r) from nI_add 76 r]
      exact ob_mk (ald_ok (by omega) (by decide)) (by rw [k2])
    by_cases a5 : p2 = 5
    · exact ⟨_, ob_mk (f_160 hN) (in_neg q0 (in_neg a0 (in_neg a1 (in_neg a2 (in_neg a3 (in_neg a4 (in_pos a5 (ob_mk (ald_ok (by omega) (by decide)) (by rw [hl r hr]))))))))), ob_mk (f_219 hN) (in_neg q0 (in_neg a0 (in_neg a1 (in_neg a2 (in_neg a3 (in_neg a4 (in_pos a5 (ob_mk (f_232 hD d10) rfl))))))))⟩
    exact ⟨-1, ob_mk (f_160 hN) (in_neg q0 (in_neg a0 (in_neg a1 (in_neg a2 (in_neg a3 (in_neg a4 (in_neg a5 rfl))))))), ob_mk (f_219 hN) (in_neg q0 (in_neg a0 (in_neg a1 (in_neg a2 (in_neg a3 (in_neg a4 (in_neg a5 rfl)))))))⟩
theorem q_door {p1 p2 : Int32} (hN : SnR c1 c8 (cR c10 0 (cR c11 7 B)) (cA c12 20 B2) R D H Q M) (hd : SdR c1 c8 (cR c10 0 (cR c11 7 B)) (cA c12 20 B2) R D) : ∃ x, F_129 c1 c8 c10 c11 B p1 p2 = some x ∧ F_236 c12 B2 p1 p2 = some x := by
  have d10 := hN.2.1.2.2
  have e9 : F_170 p2.toInt64 0 2 = some (if p2 < 0 then 0 else if 2 < p2 then 0 else 1) := f_170 p2 0 2
  unfold F_129 F_236
  rcases is1_of (n := D) (p := p1) (by omega) with q | ⟨q, i, hi, rfl⟩
  · exact ⟨-1, ob_mk (f_161 hN) (in_pos q rfl), ob_mk (f_220 hN) (ob_mk (in_pos q rfl) rfl)⟩
  · have q0 : ¬ is1 D (nI i) = 0 := by rw [q]; decide
    obtain ⟨g0, g1, g2, -⟩ := hd i hi
    rcases pk_ix p2 (n := 3) (by decide) with z | z | ⟨k, hk, rfl⟩
    · rw [in_lo z] at e9
      have nk : ∀ m : Int32, ¬ m < 0 → ¬ p2 = m := fun m w e => w (e ▸ z)
      exact ⟨-1, ob_mk (f_161 hN) (in_neg q0 (in_neg (nk 0 (by decide)) (in_neg (nk 1 (by decide)) (in_neg (nk 2 (by decide)) rfl)))), ob_mk (f_220 hN) (ob_mk (in_neg q0 (ob_mk e9 (in_pos rfl rfl))) rfl)⟩
    · rw [in_hi (out_hi (n := 3) (m := 2) rfl (by decide) z)] at e9
      have nk : ∀ m : Int32, ¬ nI 3 ≤ m → ¬ p2 = m := fun m w e => w (e ▸ z)
      exact ⟨-1, ob_mk (f_161 hN) (in_neg q0 (in_neg (nk 0 (by decide)) (in_neg (nk 1 (by decide)) (in_neg (nk 2 (by decide)) rfl)))), ob_mk (f_220 hN) (ob_mk (in_neg q0 (ob_mk e9 (in_pos rfl rfl))) rfl)⟩
    · rw [in_in (k := k) (n := 2) (m := 2) rfl (by omega) (by decide)] at e9
      have ml : ((if is1 D (nI i) = 0 then some (-1) else F_170 (nI k).toInt64 0 2 >>= fun r5 => if r5 = 0 then some (-1) else ald (cA c12 20 B2) 221 ((10 + (3 * nI i)) + nI k) >>= fun v7 => some v7) : Option Int32) = some (cA c12 20 B2 (10 + 3 * i + k)) := by
        refine in_neg q0 (ob_mk e9 (in_neg (by decide) ?_))
        rw [ix_d]
        exact ob_mk (ald_ok (by omega) (by decide)) rfl
      rcases k with _ | _ | _ | k
      · exact ⟨_, ob_mk (f_161 hN) (in_neg q0 (in_pos rfl (ob_mk (ald_ok (by omega) (by decide)) (by rw [g0]; rfl)))), ob_mk (f_220 hN) (ob_mk ml rfl)⟩
      · exact ⟨_, ob_mk (f_161 hN) (in_neg q0 (in_neg (by decide) (in_pos rfl (ob_mk (ald_ok (by omega) (by decide)) (by rw [g1]))))), ob_mk (f_220 hN) (ob_mk ml rfl)⟩
      · refine ⟨_, ob_mk (f_161 hN) (in_neg q0 (in_neg (by decide) (in_neg (by decide) (in_pos rfl (ob_mk (f_85 _ _ _) ?_))))), ob_mk (f_220 hN) (ob_mk ml rfl)⟩
        rw [← g2]
        unfold bit1
        by_cases w : ((cI c8 2 (cR c10 0 (cR c11 7 B)) >>> (nI i &&& 31)) &&& 1) = 1
        · rw [if_pos w]; rfl
        · rw [if_neg w]; rfl
      · omega
end Query4
