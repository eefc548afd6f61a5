/-! ===== go, rest, die, open, undo, tell, seed: both alike, and the world stays the reference's ===== -/
/-- the world that is, against the reference's rows -/
def WM (c1 c8 c10 c12 : Cl) (B2 w : Nat) (A : Nat → Nat) (X R D H Q L : Nat) (K : Nat → Nat) : Prop := ∃ U, cI c12 23 B2 = nI U ∧ WR c1 c8 c10 w A (cA c12 20 B2) (cA c12 22 B2) U (cI c12 21 B2) X R D H Q L K
/-- what sums rest on is as it was -/
def Sme (S S' : Nat → Int32) : Prop := ∀ j, j ≠ 4 → (j < 94 ∨ (184 ≤ j ∧ j < 221)) → S' j = S j
def OP (c1 c7 c8 c10 c12 : Cl) (B2 sr w : Nat) (A : Nat → Nat) (X R D H Q L : Nat) (K : Nat → Nat) (c7' c8' c10' c12' : Cl) : Prop := WM c1 c8' c10' c12' B2 w A X R D H Q L K ∧ (∀ a, (∀ i, i ≤ 20 → a ≠ A i) → Sm8 c8 a c8' a) ∧ Oth w c10 c10' ∧ Kp [20, 21, 22, 23] c12 c12' ∧ ((c7' = c7 ∧ Sme (cA c12 20 B2) (cA c12' 20 B2)) ∨ c7' = sI c7 1 sr 0)
section Ops
variable {c1 c7 c8 c10 c11 c12 : Cl} {B B2 : Nat} {A : Nat → Nat} {X R D H Q L M E : Nat} {K : Nat → Nat}
theorem op_rf {sr w : Nat} (h : WM c1 c8 c10 c12 B2 w A X R D H Q L K) : OP c1 c7 c8 c10 c12 B2 sr w A X R D H Q L K c7 c8 c10 c12 := ⟨h, fun a _ => Sm8.rf _ _, oth_rf _ _, kp_rf _ _, Or.inl ⟨rfl, fun _ _ _ => rfl⟩⟩
theorem f_165 {st m : Nat} (e : cR c10 0 (cR c11 7 B) = st) (hM : cI c8 1 st = nI M) (m9 : M < 20000) (mm : m < 1000) : F_165 c8 c10 c11 B (nI m) = some (if M + m ≤ 9999 then 1 else 0) := by
  unfold F_165
  rw [e, hM, nI_add]
  by_cases q : M + m ≤ 9999
  · rw [if_neg (show ¬ (9999 : Int32) < nI (M + m) from nI_nlt (a := 9999) (b := M + m) q (by decide)), if_pos q]; rfl
  · rw [if_pos (show (9999 : Int32) < nI (M + m) from nI_lt (a := 9999) (b := M + m) (by omega) (by omega)), if_neg q]; rfl
theorem st_9999 (h : M < 20000) : nI M = (9999 : Int32) ↔ M = 9999 := nI_eq (a := M) (b := 9999) (by omega) (by decide)
/-- the reference's row behind a minute, from another row's slots -/
theorem r_tail {c : Cl} {T : Nat → Int32} {M : Nat} (hR : T 0 = nI R) (r6 : R ≤ 6) (hH : T 2 = nI H) (h6 : H ≤ 6) (hM : T 4 = nI M) (hM2 : M < 2 ^ 30) : (F_227 (sA c 20 B2 T) B2 >>= fun r15 => ald (cA r15 20 B2) 221 4 >>= fun v16 => some (v16, r15)) = some (nI M, sA c 20 B2 (kp T H (112 + 6 * (M % 12)) R)) := by
  refine ob_mk (f_227 (R := R) (H := H) (M := M) (by rw [cA_same]; exact hR) r6 (by rw [cA_same]; exact hH) h6 (by rw [cA_same]; exact hM) hM2) ?_
  rw [cA_same, sA_sA, cA_same]
  refine ob_mk al_4 ?_
  rw [kp_out (by omega), hM]
theorem q_go {p1 p2 p3 : Int32} (inj : ∀ i j, i ≤ 20 → j ≤ 20 → A i = A j → i = j) (h : WM c1 c8 c10 c12 B2 (cR c11 7 B) A X R D H Q L K) : ∃ rx rm, F_132 c1 c7 c8 c10 c11 B p1 p2 p3 = some rx ∧ F_245 c12 B2 p1 p2 p3 = some rm ∧ rx.1 = rm.1 ∧ OP c1 c7 c8 c10 c12 B2 (cR c11 12 B) (cR c11 7 B) A X R D H Q L K rx.2.1 rx.2.2.1 rx.2.2.2 rm.2 := by
  obtain ⟨U, hU, hw⟩ := id h
  obtain ⟨a1, a2, a3, ⟨M, E, m9, s⟩, ⟨o, o20, b1, b2, b3, b4⟩, a4, tt⟩ := id hw
  have s' := s
  rw [← a1] at s'
  have hN := s'.1.1
  have hN0 := s.1.1
  obtain ⟨⟨-, hR, r6⟩, ⟨-, hD, d10⟩, ⟨-, hH, h6⟩, -, n13, n14, n15⟩ := id hN0
  unfold F_132 F_245
  rcases is1_of (n := H) (p := p1) (by omega) with q | ⟨q, i, hi, rfl⟩
  · exact ⟨_, _, ob_mk (f_158 hN) (in_pos q rfl), ob_mk (f_221 hN) (in_pos q rfl), rfl, op_rf h⟩
  have q0 : ¬ is1 H (nI i) = 0 := by rw [q]; decide
  rcases is1_of (n := R) (p := p2) (by omega) with z | ⟨z, r, hr, rfl⟩
  · exact ⟨_, _, ob_mk (f_158 hN) (in_neg q0 (ob_mk (f_160 hN) (in_pos z rfl))), ob_mk (f_221 hN) (in_neg q0 (ob_mk (f_219 hN) (in_pos z rfl))), rfl, op_rf h⟩
  have z0 : ¬ is1 R (nI r) = 0 := by rw [z]; decide
  have g1 : F_91 c1 c8 (cR c10 0 (cR c11 7 B)) (nI i) (nI r) = some (cg (cA c12 20 B2) H D i r) := f_91 hi hr s'
  have g2 := f_241 (c12 := c12) (B2 := B2) (h := i) (r := r) (by omega) (by omega) hH h6 hD d10
  have g3 := f_165 (m := 1) (c11 := c11) (B := B) a1 n13 n15 (by decide)
  by_cases y : M = 9999
  · have k0 : (if M + 1 ≤ 9999 then (1 : Int32) else 0) = 0 := if_neg (by omega)
    rw [k0] at g3
    refine ⟨_, (-1, c12), ob_mk (f_158 hN) (in_neg q0 (ob_mk (f_160 hN) (in_neg z0 (ob_mk g3 (in_pos rfl rfl))))), ob_mk (f_221 hN) (in_neg q0 (ob_mk (f_219 hN) (in_neg z0 (ob_mk g2 ?_)))), rfl, op_rf h⟩
    by_cases v : cg (cA c12 20 B2) H D i r = 0
    · exact in_pos v rfl
    · exact in_neg v (ob_mk al_4 (in_pos (by rw [n14]; exact (st_9999 n15).mpr y) rfl))
  have k1 : (if M + 1 ≤ 9999 then (1 : Int32) else 0) = 1 := if_pos (by omega)
  rw [k1] at g3
  by_cases v : cg (cA c12 20 B2) H D i r = 0
  · exact ⟨_, _, ob_mk (f_158 hN) (in_neg q0 (ob_mk (f_160 hN) (in_neg z0 (ob_mk g3 (in_neg (by decide) (ob_mk g1 (in_pos v rfl))))))), ob_mk (f_221 hN) (in_neg q0 (ob_mk (f_219 hN) (in_neg z0 (ob_mk g2 (in_pos v rfl))))), rfl, op_rf h⟩
  obtain ⟨S, eS'⟩ : ∃ S, S = cA c12 20 B2 := ⟨_, rfl⟩
  obtain ⟨T, eT⟩ : ∃ T, T = gS (bE p3 S i) i (nI r) := ⟨_, rfl⟩
  have T4 : T 4 = nI (M + 1) := by
    rw [eT, gS_un (by omega) (by omega) (by omega) (by omega)]
    have e : mS S 4 = nI (M + 1) := by unfold mS; rw [pk_us, eS', n14, nI_1]
    unfold bE; split
    · exact e
    · rw [eS_un (by omega)]; exact e
  have Tu : ∀ j, j ≠ 4 → j ≠ 5 → (j < 40 ∨ 112 ≤ j) → T j = S j := fun j y1 y2 y3 => by rw [eT, gS_un (by omega) (by omega) (by omega) (by omega), bE_un y1 (by omega)]
  obtain ⟨rp, rp1, rp2, rp3, rp4⟩ := pm_ok (M := M) (p1 := nI i) (p2 := nI r) (p3 := p3) (S' := kp T H (112 + 6 * ((M + 1) % 12)) R) inj hw n14 (by omega) (fun j y => by
    have := Nat.mod_lt (M + 1) (show 0 < 12 by decide)
    rw [kp_out (by omega), Tu j (by omega) (by omega) (by omega), eS']) (fun c8' E0 s0 => by rw [eT, eS']; exact pass_head s0 (by omega) hi hr)
  obtain ⟨-, -, -, ⟨M2, E2, -, s2⟩, -⟩ := id rp2
  have w0 : cR rp.2 0 (cR c11 7 B) = A 0 := rp2.1
  have ev : cI rp.1 1 (cR rp.2 0 (cR c11 7 B)) = nI (M + 1) := by
    rw [w0, s2.1.1.2.2.2.2.1, ← s2.1.1.2.2.2.2.2.1, kp_out (by omega)]; exact T4
  refine ⟨(nI (M + 1), sI c7 1 (cR c11 12 B) 0, rp.1, rp.2), (nI (M + 1), sA (sI (sA c12 22 B2 (kmW (cA c12 22 B2) U S)) 23 B2 (nI (kmU U))) 20 B2 (kp T H (112 + 6 * ((M + 1) % 12)) R)), ob_mk (f_158 hN) (in_neg q0 (ob_mk (f_160 hN) (in_neg z0 (ob_mk g3 (in_neg (by decide) (ob_mk g1 (in_neg v (ob_mk rp1 (by rw [ev]; rfl))))))))), ob_mk (f_221 hN) (in_neg q0 (ob_mk (f_219 hN) (in_neg z0 (ob_mk g2 (in_neg v (ob_mk al_4 (in_neg (by rw [n14]; exact fun e => y ((st_9999 n15).mp e)) (ob_mk (f_239 hU b3) ?_)))))))), rfl, ⟨kmU U, ?_, ?_⟩, rp3, rp4, ?_, Or.inr rfl⟩
  · rw [← eS']
    obtain ⟨r9, e9⟩ : ∃ r9, r9 = sI (sA c12 22 B2 (kmW (cA c12 22 B2) U S)) 23 B2 (nI (kmU U)) := ⟨_, rfl⟩
    rw [← e9]
    have c9 : cA r9 20 B2 = S := by rw [e9, cA_sI, cA_ne (by decide), eS']
    refine ob_mk (v := S (40 + 6 * i + 0)) ((f_223 (w := 0) (by omega) (by decide)).trans (by rw [c9])) (ob_mk (v := sA r9 20 B2 (gS S i (nI r))) ((f_244 (by omega)).trans (by rw [c9]; rfl)) (ob_mk (v := sA r9 20 B2 (mS (gS S i (nI r)))) (f_242.trans (by rw [cA_same, sA_sA]; rfl)) ?_))
    have e13 : ((if p3 = 0 then some (sA r9 20 B2 (mS (gS S i (nI r)))) else F_223 (sA r9 20 B2 (mS (gS S i (nI r)))) B2 (nI i) 1 >>= fun r18 => F_243 (sA r9 20 B2 (mS (gS S i (nI r)))) B2 (S (40 + 6 * i + 0)) r18 >>= fun r19 => some r19) : Option Cl) = some (sA r9 20 B2 T) := by
      rw [eT, gS_bE (by omega)]
      by_cases u : p3 = 0
      · rw [if_pos u, if_pos u]
      · rw [if_neg u, if_neg u]
        refine ob_mk (v := S (40 + 6 * i + 1)) ((f_223 (w := 1) (by omega) (by decide)).trans (by rw [cA_same, mS_un (by omega), gS_un (by omega) (by omega) (by omega) (by omega)])) (ob_mk (f_243.trans (by rw [cA_same, sA_sA]; rfl)) rfl)
    refine ob_mk e13 ?_
    exact r_tail (by rw [Tu 0 (by decide) (by decide) (by decide), eS', hR]) r6 (by rw [Tu 2 (by decide) (by decide) (by decide), eS', hH]) h6 T4 (by omega)
  · dsimp only; rw [cI_sA, cI_same]
  · dsimp only
    rw [cA_same, cA_ne (by decide), cA_sI, cA_same, cI_sA, cI_sI, if_neg (fun z => by omega), cI_sA, eS']
    exact rp2
  · exact kp_tr (kp_A (by decide)) (kp_tr (kp_I (by decide)) (kp_A (by decide)))
theorem q_rest (inj : ∀ i j, i ≤ 20 → j ≤ 20 → A i = A j → i = j) (h : WM c1 c8 c10 c12 B2 (cR c11 7 B) A X R D H Q L K) : ∃ rx rm, F_133 c1 c8 c10 c11 B = some rx ∧ F_246 c12 B2 = some rm ∧ rx.1 = rm.1 ∧ OP c1 c7 c8 c10 c12 B2 (cR c11 12 B) (cR c11 7 B) A X R D H Q L K c7 rx.2.1 rx.2.2 rm.2 := by
  obtain ⟨U, hU, hw⟩ := id h
  obtain ⟨a1, a2, a3, ⟨M, E, m9, s⟩, ⟨o, o20, b1, b2, b3, b4⟩, a4, tt⟩ := id hw
  have s' := s
  rw [← a1] at s'
  have hN := s'.1.1
  obtain ⟨⟨-, hR, r6⟩, -, ⟨-, hH, h6⟩, -, n13, n14, n15⟩ := id s.1.1
  unfold F_133 F_246
  by_cases q : hh1 R = 0
  · exact ⟨_, _, ob_mk (f_157 hN) (in_pos q rfl), ob_mk (f_218 hN) (in_pos q rfl), rfl, op_rf h⟩
  have g3 := f_165 (m := 1) (c11 := c11) (B := B) a1 n13 n15 (by decide)
  by_cases y : M = 9999
  · have k0 : (if M + 1 ≤ 9999 then (1 : Int32) else 0) = 0 := if_neg (by omega)
    rw [k0] at g3
    exact ⟨_, (-1, c12), ob_mk (f_157 hN) (in_neg q (ob_mk g3 (in_pos rfl rfl))), ob_mk (f_218 hN) (in_neg q (ob_mk al_4 (in_pos (by rw [n14]; exact (st_9999 n15).mpr y) rfl))), rfl, op_rf h⟩
  have k1 : (if M + 1 ≤ 9999 then (1 : Int32) else 0) = 1 := if_pos (by omega)
  rw [k1] at g3
  obtain ⟨S, eS'⟩ : ∃ S, S = cA c12 20 B2 := ⟨_, rfl⟩
  have T4 : mS S 4 = nI (M + 1) := by unfold mS; rw [pk_us, eS', n14, nI_1]
  obtain ⟨rp, rp1, rp2, rp3, rp4⟩ := pm_ok (M := M) (p1 := -1) (p2 := -1) (p3 := 0) (S' := kp (mS S) H (112 + 6 * ((M + 1) % 12)) R) inj hw n14 (by omega) (fun j y => by
    have := Nat.mod_lt (M + 1) (show 0 < 12 by decide)
    rw [kp_out (by omega), mS_un (by omega), eS']) (fun c8' E0 s0 => by rw [eS']; exact pass_none s0 (by omega))
  obtain ⟨-, -, -, ⟨M2, E2, -, s2⟩, -⟩ := id rp2
  have w0 : cR rp.2 0 (cR c11 7 B) = A 0 := rp2.1
  have ev : cI rp.1 1 (cR rp.2 0 (cR c11 7 B)) = nI (M + 1) := by
    rw [w0, s2.1.1.2.2.2.2.1, ← s2.1.1.2.2.2.2.2.1, kp_out (by omega)]; exact T4
  refine ⟨(nI (M + 1), rp.1, rp.2), (nI (M + 1), sA (sI (sA c12 22 B2 (kmW (cA c12 22 B2) U S)) 23 B2 (nI (kmU U))) 20 B2 (kp (mS S) H (112 + 6 * ((M + 1) % 12)) R)), ob_mk (f_157 hN) (in_neg q (ob_mk g3 (in_neg (by decide) (ob_mk rp1 (by rw [ev]))))), ob_mk (f_218 hN) (in_neg q (ob_mk al_4 (in_neg (by rw [n14]; exact fun e => y ((st_9999 n15).mp e)) (ob_mk (f_239 hU b3) ?_)))), rfl, ⟨kmU U, ?_, ?_⟩, rp3, rp4, ?_, Or.inl ⟨rfl, ?_⟩⟩
  · rw [← eS']
    obtain ⟨r9, e9⟩ : ∃ r9, r9 = sI (sA c12 22 B2 (kmW (cA c12 22 B2) U S)) 23 B2 (nI (kmU U)) := ⟨_, rfl⟩
    rw [← e9]
    have c9 : cA r9 20 B2 = S := by rw [e9, cA_sI, cA_ne (by decide), eS']
    refine ob_mk (v := sA r9 20 B2 (mS S)) (f_242.trans (by rw [c9]; rfl)) ?_
    exact r_tail (by rw [mS_un (by decide), eS', hR]) r6 (by rw [mS_un (by decide), eS', hH]) h6 T4 (by omega)
  · dsimp only; rw [cI_sA, cI_same]
  · dsimp only
    rw [cA_same, cA_ne (by decide), cA_sI, cA_same, cI_sA, cI_sI, if_neg (fun z => by omega), cI_sA]
    rw [← eS'] at rp2
    exact rp2
  · exact kp_tr (kp_A (by decide)) (kp_tr (kp_I (by decide)) (kp_A (by decide)))
  · intro j q1 q2
    have := Nat.mod_lt (M + 1) (show 0 < 12 by decide)
    dsimp only
    rw [cA_same, kp_out (by omega), mS_un q1, eS']
end Ops
