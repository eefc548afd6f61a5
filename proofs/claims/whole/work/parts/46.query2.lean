/-! ===== head and sense: both answer alike ===== -/
section Query2
variable {c1 c8 c10 c11 c12 : Cl} {B B2 R D H Q M : Nat} {K : Nat → Nat}
theorem out_hi {p : Int32} {n : Nat} {m : Int32} (hm : m.toInt + 1 = n) (hn : n < 2 ^ 31) (z : nI n ≤ p) : ¬ p < 0 ∧ m < p := by
  have a2 := Int32.le_iff_toInt_le.mp z
  rw [nI_toInt hn] at a2
  have a3 : (0 : Int32).toInt = 0 := rfl
  refine ⟨fun w => ?_, Int32.lt_iff_toInt_lt.mpr (by omega)⟩
  have a1 := Int32.lt_iff_toInt_lt.mp w
  omega
theorem in_lo {p m : Int32} (z : p < 0) : (if p < 0 then (0 : Int32) else if m < p then 0 else 1) = 0 := if_pos z
theorem in_hi {p m : Int32} (z : ¬ p < 0 ∧ m < p) : (if p < 0 then (0 : Int32) else if m < p then 0 else 1) = 0 := by rw [if_neg z.1, if_pos z.2]
theorem in_in {k n : Nat} {m : Int32} (hm : m = nI n) (hk : k ≤ n) (hn : n < 2 ^ 31) : (if nI k < 0 then (0 : Int32) else if m < nI k then 0 else 1) = 1 := by
  rw [hm, if_neg (nI_pos (by omega)), if_neg (nI_nlt hk (by omega))]
theorem q_head {p1 p2 : Int32} (hN : SnR c1 c8 (cR c10 0 (cR c11 7 B)) (cA c12 20 B2) R D H Q M) (hS : ShR c1 c8 (cR c10 0 (cR c11 7 B)) (cA c12 20 B2) H) : ∃ x, F_127 c1 c8 c10 c11 B p1 p2 = some x ∧ F_233 c12 B2 p1 p2 = some x := by
  have h6 := hN.2.2.1.2.2
  have e9 : F_170 p2.toInt64 0 5 = some (if p2 < 0 then 0 else if 5 < p2 then 0 else 1) := f_170 p2 0 5
  unfold F_127 F_233
  rcases is1_of (n := H) (p := p1) (by omega) with q | ⟨q, h, hh, rfl⟩
  · exact ⟨-1, ob_mk (f_158 hN) (in_pos q rfl), ob_mk (f_221 hN) (in_pos q rfl)⟩
  · have q0 : ¬ is1 H (nI h) = 0 := by rw [q]; decide
    obtain ⟨g0, g1, g2, g3, g4, -⟩ := hS h hh
    rcases pk_ix p2 (n := 6) (by decide) with z | z | ⟨k, hk, rfl⟩
    · rw [in_lo z] at e9
      have nk : ∀ m : Int32, ¬ m < 0 → ¬ p2 = m := fun m w e => w (e ▸ z)
      exact ⟨-1, ob_mk (f_158 hN) (in_neg q0 (in_neg (nk 0 (by decide)) (in_neg (nk 1 (by decide)) (in_neg (nk 2 (by decide)) (in_neg (nk 3 (by decide)) (in_neg (nk 4 (by decide)) (in_neg (nk 5 (by decide)) rfl))))))), ob_mk (f_221 hN) (in_neg q0 (ob_mk e9 (in_pos rfl rfl)))⟩
    · rw [in_hi (out_hi (n := 6) (m := 5) rfl (by decide) z)] at e9
      have nk : ∀ m : Int32, ¬ nI 6 ≤ m → ¬ p2 = m := fun m w e => w (e ▸ z)
      exact ⟨-1, ob_mk (f_158 hN) (in_neg q0 (in_neg (nk 0 (by decide)) (in_neg (nk 1 (by decide)) (in_neg (nk 2 (by decide)) (in_neg (nk 3 (by decide)) (in_neg (nk 4 (by decide)) (in_neg (nk 5 (by decide)) rfl))))))), ob_mk (f_221 hN) (in_neg q0 (ob_mk e9 (in_pos rfl rfl)))⟩
    · rw [in_in (k := k) (n := 5) (m := 5) rfl (by omega) (by decide)] at e9
      have ml : k < 5 → (F_221 c12 B2 (nI h) >>= fun r1 => if r1 = 0 then some (-1) else F_170 (nI k).toInt64 0 5 >>= fun r3 => if r3 = 0 then some (-1) else ((if 5 ≤ nI k then F_224 c12 B2 (nI h) >>= fun r8 => if r8 = 0 then F_225 c12 B2 (nI h) >>= fun r10 => if r10 = 0 then some 2 else some 1 else some 0 else F_223 c12 B2 (nI h) (nI k) >>= fun r12 => some r12) : Option Int32) >>= fun t5 => some t5) = some (cA c12 20 B2 (40 + 6 * h + k)) := fun h5 =>
        ob_mk (f_221 hN) (in_neg q0 (ob_mk e9 (in_neg (by decide) (ob_mk (in_neg (show ¬ (5 : Int32) ≤ nI k from nI_ge (a := k) (b := 5) h5 (by decide)) (ob_mk (f_223 (by omega) (by omega)) rfl)) rfl))))
      rcases k with _ | _ | _ | _ | _ | _ | k
      · exact ⟨_, ob_mk (f_158 hN) (in_neg q0 (in_pos rfl (ob_mk (ald_ok (by omega) (by decide)) (by rw [g0])))), ml (by decide)⟩
      · exact ⟨_, ob_mk (f_158 hN) (in_neg q0 (in_neg (by decide) (in_pos rfl (ob_mk (ald_ok (by omega) (by decide)) (by rw [g1]))))), ml (by decide)⟩
      · exact ⟨_, ob_mk (f_158 hN) (in_neg q0 (in_neg (by decide) (in_neg (by decide) (in_pos rfl (ob_mk (ald_ok (by omega) (by decide)) (by rw [g2])))))), ml (by decide)⟩
      · exact ⟨_, ob_mk (f_158 hN) (in_neg q0 (in_neg (by decide) (in_neg (by decide) (in_neg (by decide) (in_pos rfl (ob_mk (ald_ok (by omega) (by decide)) (by rw [g3]))))))), ml (by decide)⟩
      · exact ⟨_, ob_mk (f_158 hN) (in_neg q0 (in_neg (by decide) (in_neg (by decide) (in_neg (by decide) (in_neg (by decide) (in_pos rfl (ob_mk (ald_ok (by omega) (by decide)) (by rw [g4])))))))), ml (by decide)⟩
      · refine ⟨if lv (cA c12 20 B2) h = 0 then (if ctd (cA c12 20 B2) h = 0 then 2 else 1) else 0, ob_mk (f_158 hN) (in_neg q0 (in_neg (by decide) (in_neg (by decide) (in_neg (by decide) (in_neg (by decide) (in_neg (by decide) (in_pos rfl (ob_mk (f_83 hh h6 hS) ?_)))))))), ob_mk (f_221 hN) (in_neg q0 (ob_mk e9 (in_neg (by decide) (ob_mk (in_pos (by decide) (ob_mk (f_224 (by omega)) ?_)) rfl))))⟩
        · by_cases w : lv (cA c12 20 B2) h = 0
          · rw [if_pos w, if_pos w, f_84 hh hN hS]
            by_cases w2 : ctd (cA c12 20 B2) h = 0
            · rw [if_pos w2]; exact ob_mk (v := 2) (ob_mk (v := ctd (cA c12 20 B2) h) rfl (in_pos w2 rfl)) rfl
            · rw [if_neg w2]; exact ob_mk (v := 1) (ob_mk (v := ctd (cA c12 20 B2) h) rfl (in_neg w2 rfl)) rfl
          · rw [if_neg w, if_neg w]; rfl
        · by_cases w : lv (cA c12 20 B2) h = 0
          · rw [if_pos w, if_pos w]
            refine ob_mk (f_225 (by omega)) ?_
            by_cases w2 : ctd (cA c12 20 B2) h = 0
            · rw [if_pos w2, if_pos w2]
            · rw [if_neg w2, if_neg w2]
          · rw [if_neg w, if_neg w]
      · omega
/-- senses -/
def SsR (c1 c8 : Cl) (st : Nat) (S : Nat → Int32) (Q : Nat) : Prop := ∀ s, s < Q → cA c1 11 (cR c8 0 st) s = S (88 + s)
theorem q_sense {p1 p2 : Int32} (hN : SnR c1 c8 (cR c10 0 (cR c11 7 B)) (cA c12 20 B2) R D H Q M) (hC : ScR c1 c8 (cR c10 0 (cR c11 7 B)) (cA c12 20 B2) R H M K) (hQ : SsR c1 c8 (cR c10 0 (cR c11 7 B)) (cA c12 20 B2) Q) : ∃ x, F_130 c1 c8 c10 c11 B p1 p2 = some x ∧ F_237 c12 B2 p1 p2 = some x := by
  obtain ⟨⟨-, hR, r6⟩, -, ⟨-, hH, h6⟩, ⟨-, -, s6⟩, m1, m2, m3⟩ := id hN
  have e9 : F_170 p2.toInt64 0 1 = some (if p2 < 0 then 0 else if 1 < p2 then 0 else 1) := f_170 p2 0 1
  unfold F_130 F_237
  rcases is1_of (n := Q) (p := p1) (by omega) with q | ⟨q, s, hs, rfl⟩
  · exact ⟨-1, ob_mk (f_162 hN) (in_pos q rfl), ob_mk (f_222 hN) (ob_mk (in_pos q rfl) rfl)⟩
  · have q0 : ¬ is1 Q (nI s) = 0 := by rw [q]; decide
    rcases pk_ix p2 (n := 2) (by decide) with z | z | ⟨k, hk, rfl⟩
    · rw [in_lo z] at e9
      have nk : ∀ m : Int32, ¬ m < 0 → ¬ p2 = m := fun m w e => w (e ▸ z)
      exact ⟨-1, ob_mk (f_162 hN) (in_neg q0 (in_neg (nk 0 (by decide)) (in_neg (nk 1 (by decide)) rfl))), ob_mk (f_222 hN) (ob_mk (in_neg q0 (ob_mk e9 (in_pos rfl rfl))) rfl)⟩
    · rw [in_hi (out_hi (n := 2) (m := 1) rfl (by decide) z)] at e9
      have nk : ∀ m : Int32, ¬ nI 2 ≤ m → ¬ p2 = m := fun m w e => w (e ▸ z)
      exact ⟨-1, ob_mk (f_162 hN) (in_neg q0 (in_neg (nk 0 (by decide)) (in_neg (nk 1 (by decide)) rfl))), ob_mk (f_222 hN) (ob_mk (in_neg q0 (ob_mk e9 (in_pos rfl rfl))) rfl)⟩
    · rw [in_in (k := k) (n := 1) (m := 1) rfl (by omega) (by decide)] at e9
      rcases k with _ | _ | k
      · refine ⟨cA c12 20 B2 (88 + s), ob_mk (f_162 hN) (in_neg q0 (in_pos rfl (ob_mk (ald_ok (by omega) (by decide)) (by rw [hQ s hs])))), ob_mk (f_222 hN) (ob_mk (in_neg q0 (ob_mk e9 (in_neg (by decide) (in_pos rfl ?_)))) rfl)⟩
        rw [show (88 : Int32) + nI s = nI (88 + s) from nI_add 88 s]
        exact ob_mk (ald_ok (by omega) (by decide)) rfl
      · exact ⟨_, ob_mk (f_162 hN) (in_neg q0 (in_neg (by decide) (in_pos rfl (ob_mk (f_97 (by omega) hN hC (hQ s hs)) rfl)))), ob_mk (f_222 hN) (ob_mk (in_neg q0 (ob_mk e9 (in_neg (by decide) (in_neg (by decide) (ob_mk (f_231 hH h6 m2 (by omega) hR r6 (by omega) (fun r hr => ⟨(hC.2.2.2 r hr).2.1, by have := (hC.2.2.2 r hr).2.2; omega⟩)) rfl))))) rfl)⟩
      · omega
end Query2
