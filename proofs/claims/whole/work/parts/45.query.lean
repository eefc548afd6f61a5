/-! ===== head and was: both answer alike ===== -/
theorem i64_lt (x y : Int32) : x.toInt64 < y.toInt64 ↔ x < y := by
  rw [Int64.lt_iff_toInt_lt, Int32.lt_iff_toInt_lt, Int32.toInt_toInt64, Int32.toInt_toInt64]
theorem f_170 (x lo hi : Int32) : F_170 x.toInt64 lo.toInt64 hi.toInt64 = some (if x < lo then 0 else if hi < x then 0 else 1) := by
  unfold F_170
  by_cases q : x < lo
  · rw [if_pos ((lg_cmp_lt _ _).mpr ((i64_lt _ _).mpr q)), if_pos q]; rfl
  · rw [if_neg (fun z => q ((i64_lt _ _).mp ((lg_cmp_lt _ _).mp z))), if_neg q]
    by_cases q2 : hi < x
    · rw [if_pos ((lg_cmp_gt _ _).mpr ((i64_lt _ _).mpr q2)), if_pos q2]; rfl
    · rw [if_neg (fun z => q2 ((i64_lt _ _).mp ((lg_cmp_gt _ _).mp z))), if_neg q2]; rfl
/-- is it one of so many -/
def is1 (n : Nat) (p : Int32) : Int32 := if p < 0 then 0 else if nI n ≤ p then 0 else 1
section Query
variable {c1 c8 c10 c11 c12 : Cl} {B B2 R D H Q M : Nat} {K : Nat → Nat}
theorem is_1 {v : Int32} {n : Nat} {p : Int32} (hv : v = nI n) : (((if p < 0 then some 0 else if v ≤ p then some 0 else some 1) : Option Int32) >>= fun t => zb t >>= fun z => some z) = some (is1 n p) := by
  unfold is1
  rw [hv]
  by_cases q : p < 0
  · rw [if_pos q, if_pos q]; rfl
  · rw [if_neg q, if_neg q]
    by_cases q2 : nI n ≤ p
    · rw [if_pos q2, if_pos q2]; rfl
    · rw [if_neg q2, if_neg q2]; rfl
theorem is_2 {S : Nat → Int32} {k n : Nat} {p : Int32} (hk : k < 221) (hv : S k = nI n) : (((if p < 0 then some 0 else ald S 221 (nI k) >>= fun v => if v ≤ p then some 0 else some 1) : Option Int32) >>= fun t => zb t >>= fun z => some z) = some (is1 n p) := by
  rw [ald_ok hk (by decide)]
  exact is_1 hv
theorem f_158 {p : Int32} (hN : SnR c1 c8 (cR c10 0 (cR c11 7 B)) (cA c12 20 B2) R D H Q M) : F_158 c1 c8 c10 c11 B p = some (is1 H p) := is_1 hN.2.2.1.1
theorem f_160 {p : Int32} (hN : SnR c1 c8 (cR c10 0 (cR c11 7 B)) (cA c12 20 B2) R D H Q M) : F_160 c1 c8 c10 c11 B p = some (is1 R p) := is_1 hN.1.1
theorem f_161 {p : Int32} (hN : SnR c1 c8 (cR c10 0 (cR c11 7 B)) (cA c12 20 B2) R D H Q M) : F_161 c1 c8 c10 c11 B p = some (is1 D p) := is_1 hN.2.1.1
theorem f_162 {p : Int32} (hN : SnR c1 c8 (cR c10 0 (cR c11 7 B)) (cA c12 20 B2) R D H Q M) : F_162 c1 c8 c10 c11 B p = some (is1 Q p) := is_1 hN.2.2.2.1.1
theorem f_219 {p : Int32} {st : Nat} (hN : SnR c1 c8 st (cA c12 20 B2) R D H Q M) : F_219 c12 B2 p = some (is1 R p) := is_2 (k := 0) (by decide) hN.1.2.1
theorem f_220 {p : Int32} {st : Nat} (hN : SnR c1 c8 st (cA c12 20 B2) R D H Q M) : F_220 c12 B2 p = some (is1 D p) := is_2 (k := 1) (by decide) hN.2.1.2.1
theorem f_221 {p : Int32} {st : Nat} (hN : SnR c1 c8 st (cA c12 20 B2) R D H Q M) : F_221 c12 B2 p = some (is1 H p) := is_2 (k := 2) (by decide) hN.2.2.1.2.1
theorem f_222 {p : Int32} {st : Nat} (hN : SnR c1 c8 st (cA c12 20 B2) R D H Q M) : F_222 c12 B2 p = some (is1 Q p) := is_2 (k := 3) (by decide) hN.2.2.2.1.2.1
theorem is1_of {n : Nat} {p : Int32} (hn : n < 2 ^ 31) : is1 n p = 0 ∨ (is1 n p = 1 ∧ ∃ j, j < n ∧ p = nI j) := by
  unfold is1
  rcases pk_ix p hn with q | q | ⟨j, hj, q⟩
  · left; rw [if_pos q]
  · left
    by_cases z : p < 0
    · rw [if_pos z]
    · rw [if_neg z, if_pos q]
  · right
    rw [q, if_neg (nI_pos (by omega)), if_neg (nI_ge hj hn)]
    exact ⟨rfl, j, hj, rfl⟩
theorem q_was {p1 p2 : Int32} (hN : SnR c1 c8 (cR c10 0 (cR c11 7 B)) (cA c12 20 B2) R D H Q M) (hC : ScR c1 c8 (cR c10 0 (cR c11 7 B)) (cA c12 20 B2) R H M K) : ∃ x, F_131 c1 c8 c10 c11 B p1 p2 = some x ∧ F_238 c12 B2 p1 p2 = some x := by
  have r6 := hN.1.2.2
  obtain ⟨-, -, ⟨-, hH, h6⟩, -, m1, m2, m3⟩ := id hN
  have e9 : F_170 p2.toInt64 0 9 = some (if p2 < 0 then 0 else if 9 < p2 then 0 else 1) := f_170 p2 0 9
  unfold F_131 F_238
  rcases is1_of (n := R) (p := p1) (by omega) with q | ⟨q, r, hr, rfl⟩
  · exact ⟨-1, ob_mk (f_160 hN) (in_pos q rfl), ob_mk (f_219 hN) (ob_mk (in_pos q rfl) rfl)⟩
  · have q0 : ¬ is1 R (nI r) = 0 := by rw [q]; decide
    rcases pk_ix p2 (n := 10) (by decide) with z | z | ⟨k, hk, rfl⟩
    · rw [if_pos z] at e9
      exact ⟨-1, ob_mk (f_160 hN) (in_neg q0 (in_pos z rfl)), ob_mk (f_219 hN) (ob_mk (in_neg q0 (ob_mk e9 (in_pos rfl rfl))) rfl)⟩
    · have z0 : ¬ p2 < 0 := fun w => by
        have a1 := Int32.lt_iff_toInt_lt.mp w
        have a2 := Int32.le_iff_toInt_le.mp z
        rw [nI_toInt (by decide)] at a2
        have a3 : (0 : Int32).toInt = 0 := rfl
        omega
      have z9 : (9 : Int32) < p2 := Int32.lt_iff_toInt_lt.mpr (by
        have a2 := Int32.le_iff_toInt_le.mp z
        rw [nI_toInt (by decide)] at a2
        have a3 : (9 : Int32).toInt = 9 := rfl
        omega)
      rw [if_neg z0, if_pos z9] at e9
      exact ⟨-1, ob_mk (f_160 hN) (in_neg q0 (in_neg z0 (in_pos z rfl))), ob_mk (f_219 hN) (ob_mk (in_neg q0 (ob_mk e9 (in_pos rfl rfl))) rfl)⟩
    · have z0 : ¬ nI k < 0 := nI_pos (by omega)
      rw [if_neg z0, if_neg (show ¬ (9 : Int32) < nI k from nI_nlt (a := 9) (b := k) (by omega) (by decide))] at e9
      have z1 : ¬ (10 : Int32) ≤ nI k := nI_ge (a := k) (b := 10) hk (by decide)
      by_cases q3 : k ≤ M
      · exact ⟨_, ob_mk (f_160 hN) (in_neg q0 (in_neg z0 (in_neg z1 (in_pos (by rw [m1]; exact nI_le q3 (by omega)) (ob_mk (f_95 hr (by omega) hN hC) rfl))))), ob_mk (f_219 hN) (ob_mk (in_neg q0 (ob_mk e9 (in_neg (by decide) (ob_mk al_4 (in_neg (by rw [m2]; exact nI_nlt q3 (by omega)) (ob_mk (f_228 hH h6 m2 (by omega) (by omega) (by omega)) rfl)))))) rfl)⟩
      · exact ⟨-1, ob_mk (f_160 hN) (in_neg q0 (in_neg z0 (in_neg z1 (in_neg (by rw [m1]; exact nI_ge (by omega) (by omega)) rfl)))), ob_mk (f_219 hN) (ob_mk (in_neg q0 (ob_mk e9 (in_neg (by decide) (ob_mk al_4 (in_pos (by rw [m2]; exact nI_lt (by omega) (by omega)) rfl))))) rfl)⟩
end Query
