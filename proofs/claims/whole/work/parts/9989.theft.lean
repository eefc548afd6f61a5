/-! ===== theft: situations one after the other; the class comes to one ===== -/
abbrev Tq : Type := Nat × (Nat → Nat) × (Nat → Nat) × (Nat → Nat) × Nat × Nat
def tn (x : Tq) : Nat := x.1
def tu (x : Tq) : Nat → Nat := x.2.1
/-- goings so far, and one more; 0: not come -/
def tk (x : Tq) : Nat → Nat := x.2.2.1
def tm (x : Tq) : Nat → Nat := x.2.2.2.1
/-- 0: it goes on, 1: found, 2: too many -/
def te (x : Tq) : Nat := x.2.2.2.2.1
def tr0 (x : Tq) : Nat := x.2.2.2.2.2
/-- a situation is come to -/
def come (aim gb mi s dgt g : Nat) (x : Tq) : Tq := if tk x s ≠ 0 then x else if dgt = aim then (tn x, tu x, tk x, tm x, 1, gb + g) else if 1000 ≤ tn x then (tn x, tu x, tk x, tm x, 2, 0) else (tn x + 1, un (tu x) (tn x) s, un (tk x) s (1 + gb + g), un (tm x) s (mi + 1), 0, 0)
def lfT (S : Nat → Int32) (R H Q mo aim gb mi : Nat) (a q : Nat → Nat) (x : Tq) : Tq := if gn S H a q ≠ 0 ∧ gn S H a q ≤ 2 ∧ se S H Q q = se S H Q a ∧ hlb S H q R = true then come aim gb mi (kc S R H q) (q mo) (gn S H a q) x else x
def enT (x : Tq) : Bool := decide (te x ≠ 0)
section Theft
variable {c0 c1 c6 c8 c13 : Cl} {d : Ad} {sc st cr : Nat} {S : Nat → Int32} {R D H Q M L E : Nat} {K : Nat → Nat} {a : Nat → Nat} {mo aim gb mi : Nat}
theorem lfT_no {q : Nat → Nat} {x : Tq} (h : 2 < gn S H a q) : lfT S R H Q mo aim gb mi a q x = x := by
  unfold lfT; rw [if_neg (fun z => by omega)]
theorem lfT_cg (hm : mo < H) (hml : ¬ lv S mo = 0) {q q' : Nat → Nat} {x : Tq} (h : ∀ k, k < H → ¬ lv S k = 0 → q k = q' k) : lfT S R H Q mo aim gb mi a q x = lfT S R H Q mo aim gb mi a q' x := by
  unfold lfT
  rw [gn_cg h, se_cg h, hlb_cg h, kc_cg h, h mo hm hml]
/-- what holds all the time -/
def TI (S : Nat → Int32) (R H Q : Nat) (x : Tq) : Prop := UQ (R ^ lc S H) (tk x) (tn x) (tu x) ∧ (0 < tn x ∧ tn x ≤ 1000) ∧ (∀ j, j < tn x → tk x (tu x j) ≤ 2 * j + 1) ∧ (∀ j, j < tn x → se S H Q (qs S R H (tu x j)) = se S H Q (q0 S))
/-- what was stays; what comes new comes a minute later -/
def TX (x y : Tq) (v : Nat) : Prop := tn x ≤ tn y ∧ (∀ j, j < tn x → tu y j = tu x j) ∧ (∀ j, j < tn x → tk y (tu x j) = tk x (tu x j) ∧ tm y (tu x j) = tm x (tu x j)) ∧ (∀ j, tn x ≤ j → j < tn y → tm y (tu y j) = v)
theorem tx_rf (x : Tq) (v : Nat) : TX x x v := ⟨Nat.le_refl _, fun _ _ => rfl, fun _ _ => ⟨rfl, rfl⟩, fun j a b => by omega⟩
theorem tx_tr {x y z : Tq} {v : Nat} (h : TX x y v) (h' : TX y z v) : TX x z v := by
  refine ⟨Nat.le_trans h.1 h'.1, fun j hj => (h'.2.1 j (Nat.lt_of_lt_of_le hj h.1)).trans (h.2.1 j hj), fun j hj => ?_, fun j h1 h2 => ?_⟩
  · have e := h.2.1 j hj
    have g := h'.2.2.1 j (Nat.lt_of_lt_of_le hj h.1)
    rw [e] at g
    exact ⟨g.1.trans (h.2.2.1 j hj).1, g.2.trans (h.2.2.1 j hj).2⟩
  · by_cases w : j < tn y
    · rw [h'.2.1 j w, (h'.2.2.1 j w).2]; exact h.2.2.2 j h1 w
    · exact h'.2.2.2 j (by omega) h2
theorem come_ok {s dgt g : Nat} {x : Tq} {k : Nat} (hs : s < R ^ lc S H) (hx : TI S R H Q x) (hse : se S H Q (qs S R H s) = se S H Q (q0 S)) (hk : k < tn x) (hgb : gb ≤ 2 * k) (hg : g ≤ 2) : TI S R H Q (come aim gb mi s dgt g x) ∧ TX x (come aim gb mi s dgt g x) (mi + 1) := by
  obtain ⟨hu, ⟨n0, n1⟩, hb, he⟩ := id hx
  unfold come
  split
  · exact ⟨hx, tx_rf _ _⟩
  · rename_i w
    have w' : tk x s = 0 := Classical.byContradiction w
    split
    · exact ⟨hx, ⟨Nat.le_refl _, fun _ _ => rfl, fun _ _ => ⟨rfl, rfl⟩, fun j a b => by have b' : j < tn x := b; omega⟩⟩
    · split
      · exact ⟨hx, ⟨Nat.le_refl _, fun _ _ => rfl, fun _ _ => ⟨rfl, rfl⟩, fun j a b => by have b' : j < tn x := b; omega⟩⟩
      · rename_i u
        have ns : ∀ j, j < tn x → tu x j ≠ s := fun j hj z => (hu.1 j hj).2 (by rw [z]; exact w')
        refine ⟨⟨uq_app hu hs w' (by omega), ⟨Nat.succ_pos _, ?_⟩, fun j hj => ?_, fun j hj => ?_⟩, ?_, fun j hj => ?_, fun j hj => ?_, fun j h1 h2 => ?_⟩
        · show tn x + 1 ≤ 1000; omega
        · have hj' : j < tn x + 1 := hj
          show un (tk x) s (1 + gb + g) (un (tu x) (tn x) s j) ≤ 2 * j + 1
          by_cases z : j = tn x
          · rw [z, un_s, un_s]; omega
          · rw [un_n z, un_n (ns j (by omega))]; exact hb j (by omega)
        · have hj' : j < tn x + 1 := hj
          show se S H Q (qs S R H (un (tu x) (tn x) s j)) = _
          by_cases z : j = tn x
          · rw [z, un_s]; exact hse
          · rw [un_n z]; exact he j (by omega)
        · show tn x ≤ tn x + 1; omega
        · exact un_n (by omega)
        · exact ⟨un_n (ns j hj), un_n (ns j hj)⟩
        · have h2' : j < tn x + 1 := h2
          have : j = tn x := by omega
          subst this
          show un (tm x) s (mi + 1) (un (tu x) (tn x) s (tn x)) = _
          rw [un_s, un_s]
theorem lfT_ok {s k : Nat} {x : Tq} (hR : 0 < R) (hx : TI S R H Q x) (hse : se S H Q a = se S H Q (q0 S)) (hk : k < tn x) (hgb : gb ≤ 2 * k) : TI S R H Q (lfT S R H Q mo aim gb mi a (qs S R H s) x) ∧ TX x (lfT S R H Q mo aim gb mi a (qs S R H s) x) (mi + 1) := by
  unfold lfT
  split
  · rename_i z
    have e : se S H Q (qs S R H (kc S R H (qs S R H s))) = se S H Q (q0 S) := by
      rw [se_cg (q := qs S R H (kc S R H (qs S R H s))) (q' := qs S R H s) (fun h hh hl => qs_kc hR (qs_ok hR s) hh hl), z.2.2.1, hse]
    exact come_ok (kc_lt (qs_ok hR s)) hx e hk hgb z.2.1
  · exact ⟨hx, tx_rf _ _⟩
theorem foT_ok {x0 : Tq} {k : Nat} (hR : 0 < R) (hx : TI S R H Q x0) (hse : se S H Q a = se S H Q (q0 S)) (hk : k < tn x0) (hgb : gb ≤ 2 * k) : ∀ s, TI S R H Q (fo S R D H a true mo aim enT (lfT S R H Q mo aim gb mi a) x0 s) ∧ TX x0 (fo S R D H a true mo aim enT (lfT S R H Q mo aim gb mi a) x0 s) (mi + 1)
  | 0 => ⟨hx, tx_rf _ _⟩
  | s + 1 => by
    have ih := foT_ok hR hx hse hk hgb s
    show TI S R H Q (if enT (fo S R D H a true mo aim enT (lfT S R H Q mo aim gb mi a) x0 s) = true then fo S R D H a true mo aim enT (lfT S R H Q mo aim gb mi a) x0 s else @ite _ (adm S R D H a true mo aim s) (Classical.propDecidable _) (lfT S R H Q mo aim gb mi a (qs S R H s) (fo S R D H a true mo aim enT (lfT S R H Q mo aim gb mi a) x0 s)) (fo S R D H a true mo aim enT (lfT S R H Q mo aim gb mi a) x0 s)) ∧ TX x0 (if enT (fo S R D H a true mo aim enT (lfT S R H Q mo aim gb mi a) x0 s) = true then fo S R D H a true mo aim enT (lfT S R H Q mo aim gb mi a) x0 s else @ite _ (adm S R D H a true mo aim s) (Classical.propDecidable _) (lfT S R H Q mo aim gb mi a (qs S R H s) (fo S R D H a true mo aim enT (lfT S R H Q mo aim gb mi a) x0 s)) (fo S R D H a true mo aim enT (lfT S R H Q mo aim gb mi a) x0 s)) (mi + 1)
    split
    · exact ih
    · split
      · have g := lfT_ok (a := a) (mo := mo) (aim := aim) (mi := mi) (s := s) hR ih.1 hse (Nat.lt_of_lt_of_le hk ih.2.1) hgb
        exact ⟨g.1, tx_tr ih.2 g.2⟩
      · exact ih
/-- the object that crosses, while a theft is sought -/
def relT (c0z c13z : Cl) (P Pq Z cr sc : Nat) (S : Nat → Int32) (R H Q mo aim gb : Nat) (a : Nat → Nat) (x : Tq) (c0 c13 : Cl) : Prop := (AQ c13 P Pq (R ^ lc S H) Z (tk x) (tn x) (tu x) ∧ Ota [P, Pq] c13z c13) ∧ Kp [1, 8, 10] c0z c0 ∧ Oth cr c0z c0 ∧ (cR c0 0 cr = sc ∧ cI c0 7 cr = 1 ∧ cI c0 4 cr = nI (lc S mo) ∧ cI c0 5 cr = nI aim ∧ cI c0 6 cr = 2 ∧ cJ c0 9 cr = lN (se S H Q a) ∧ cI c0 11 cr = nI gb) ∧ cI c0 8 cr = (if enT x = true then 1 else 0) ∧ cI c0 10 cr = nI (tn x) ∧ tn x ≤ 1000 ∧ gb ≤ 2000 ∧ (∀ s, s < R ^ lc S H → tk x s ≤ 3000) ∧ (te x = 0 → cI c0 1 cr = -2) ∧ (te x = 1 → cI c0 1 cr = nI (tr0 x) ∧ tr0 x ≤ 3000) ∧ (te x = 2 → cI c0 1 cr = -3) ∧ te x ≤ 2
theorem leafT {c0z c13z c6z : Cl} {P Pq Z : Nat} {q : Nat → Nat} {x : Tq} (hS : SR c1 c8 st S R D H Q M L E K) (hR0 : 0 < R) (hC : SC c6z sc S R D H Q) (hm : mo < H) (hml : ¬ lv S mo = 0) (ham : aim < R) (r12 : cR c6z 12 sc = P) (r14 : cR c6z 14 sc = Pq) (n1 : aN d P = Z) (n2 : aN d Pq = Z) (hN : R ^ lc S H ≤ Z) (hZ : Z ≤ 46656) (hen : enT x = false) (h1 : relT c0z c13z P Pq Z cr sc S R H Q mo aim gb a x c0 c13) (h2 : CtA c6z c6 sc S R H q) (hq : Qok S R H q) : Rn (F_6 c0 c6 c13 d cr (nI (kc S R H q)) (nI (gn S H a q)) (lN (se S H Q q))) (fun r => relT c0z c13z P Pq Z cr sc S R H Q mo aim gb a (lfT S R H Q mo aim gb mi a q x) r.1 r.2) := by
  obtain ⟨⟨-, -, r6⟩, -, ⟨-, -, h6⟩, -⟩ := id hS.1.1
  have ll := lc_le S H
  obtain ⟨⟨aq, ot⟩, k0, o0, ⟨f0, f7, f4, f5, f6, f9, f11⟩, f8, f10, n1000, g2000, tb, t0, t1, t2, te2⟩ := id h1
  have te0 : te x = 0 := by
    unfold enT at hen
    exact Classical.byContradiction fun z => by rw [decide_eq_true z] at hen; exact Bool.noConfusion hen
  have gl := gn_le (S := S) (H := H) (a := a) (q := q)
  have no : ¬ (gn S H a q ≠ 0 ∧ gn S H a q ≤ 2 ∧ se S H Q q = se S H Q a ∧ hlb S H q R = true) → relT c0z c13z P Pq Z cr sc S R H Q mo aim gb a (lfT S R H Q mo aim gb mi a q x) c0 c13 := fun z => by unfold lfT; rw [if_neg z]; exact h1
  unfold F_6
  by_cases w1 : gn S H a q = 0
  · exact rn_p (by rw [w1]; rfl) (rn_r (no fun z => z.1 w1))
  refine rn_n (nI_ne0 (by omega) (by omega)) ?_
  rw [f6]
  by_cases w2 : gn S H a q ≤ 2
  · refine rn_n (show ¬ nI 2 < nI (gn S H a q) from nI_nlt w2 (by omega)) ?_
    rw [f9]
    have s1 := se_lt hS (q := q)
    have s2 := se_lt hS (q := a)
    by_cases w3 : se S H Q q = se S H Q a
    · refine rn_p ((lg_cmp_eq _ _).mpr (by rw [w3])) ?_
      have g7 : F_7 c0 c6 cr = some (if hlb S H q R = true then 1 else 0) := by
        unfold F_7
        exact gl_7 (R := R) r6 (by rw [f0, (h2.1 0 (by decide)).1]; exact hC.1) (fun y hy => by rw [f0, (h2.1 7 (by decide)).2.2.2.1]; exact (hC.2.2.2.2 y hy).1) (fun y hy => by rw [f0]; exact h2.2.2 y hy) R 0 (by omega) rfl
      refine rn_e g7 ?_
      by_cases w4 : hlb S H q R = true
      · rw [if_pos w4]
        have el : lfT S R H Q mo aim gb mi a q x = come aim gb mi (kc S R H q) (q mo) (gn S H a q) x := by unfold lfT; rw [if_pos ⟨w1, w2, w3, w4⟩]
        rw [el]
        have kl := kc_lt hq
        refine rn_n (by decide) (rn_b (P := fun t => relT c0z c13z P Pq Z cr sc S R H Q mo aim gb a (come aim gb mi (kc S R H q) (q mo) (gn S H a q) x) t.1 t.2) (rn_n (by rw [f7]; decide) (rn_b (P := fun t => relT c0z c13z P Pq Z cr sc S R H Q mo aim gb a (come aim gb mi (kc S R H q) (q mo) (gn S H a q) x) t.1 t.2) ?_ (fun t ht => rn_r ht))) (fun t ht => rn_r ht))
        unfold F_8
        have q12 : cR c6 12 sc = P := by rw [(h2.1 12 (by decide)).2.2.1]; exact r12
        have q14 : cR c6 14 sc = Pq := by rw [(h2.1 14 (by decide)).2.2.1]; exact r14
        rw [f0]
        refine rn_e (f_309 q12 n1 (show kc S R H q < Z by omega) (by omega)) ?_
        rw [aq.1 _ kl]
        have tbk := tb _ kl
        by_cases u1 : tk x (kc S R H q) = 0
        · refine rn_p (if_pos (by rw [u1]; rfl)) ?_
          rw [f4]
          have lm := lc_lt hm hml
          have pp : 0 < R ^ (lc S H - 1 - lc S mo) := Nat.pow_pos hR0
          have pq : R ^ (lc S H - 1 - lc S mo) ≤ 46656 := Nat.le_trans (Nat.pow_le_pow_right hR0 (show lc S H - 1 - lc S mo ≤ lc S H by omega)) (pow_sz r6 h6)
          have sz := pow_sz (S := S) r6 h6
          have dg := qs_kc hR0 hq hm hml
          unfold qs at dg
          rw [if_pos hm, if_neg hml] at dg
          have dl : kc S R H q / R ^ (lc S H - 1 - lc S mo) ≤ kc S R H q := Nat.div_le_self _ _
          have qm := hq mo hm hml
          refine rn_e (v := nI (q mo)) ((f_310 (s := kc S R H q) (i := lc S mo) (p := R ^ (lc S H - 1 - lc S mo)) (R := R) (by omega) (by rw [(h2.1 6 (by decide)).2.2.2.1, (hC.2.2.2.1 _ lm).2.2]) (by rw [(h2.1 0 (by decide)).1, hC.1]) pp (by omega) hR0 (by omega) (by omega)).trans (by rw [show kc S R H q / R ^ (lc S H - 1 - lc S mo) % R = q mo from dg])) ?_
          rw [f5]
          have ec : come aim gb mi (kc S R H q) (q mo) (gn S H a q) x = if q mo = aim then (tn x, tu x, tk x, tm x, 1, gb + gn S H a q) else if 1000 ≤ tn x then (tn x, tu x, tk x, tm x, 2, 0) else (tn x + 1, un (tu x) (tn x) (kc S R H q), un (tk x) (kc S R H q) (1 + gb + gn S H a q), un (tm x) (kc S R H q) (mi + 1), 0, 0) := by unfold come; rw [if_neg (fun z => z u1)]
          rw [ec]
          by_cases u2 : q mo = aim
          · rw [if_pos u2]
            refine rn_e (in_pos (by rw [u2]) (ob_mk rfl (ob_mk rfl rfl))) (rn_r ⟨⟨aq, ot⟩, kp_tr k0 (kp_tr (kp_I (by decide)) (kp_I (by decide))), oth_tr o0 (oth_tr oth_I oth_I), ⟨f0, ?_, ?_, ?_, ?_, f9, ?_⟩, ?_, ?_, n1000, g2000, tb, fun z => absurd z (by show ¬ 1 = 0; decide), fun _ => ⟨?_, by show gb + gn S H a q ≤ 3000; omega⟩, fun z => absurd z (by show ¬ 1 = 2; decide), by show 1 ≤ 2; decide⟩)
            · simp only [cI_sI, cI_sJ, cI_sR, cI_sA, cI_sB, cI_sQ, cR_sI, cR_sJ, cR_sR, cR_sA, cR_sB, cR_sQ, cA_sI, cA_sJ, cA_sR, cA_sA, cA_sB, cA_sQ, Nat.reduceEqDiff, false_and, and_false, and_true, true_and, if_false, if_true, and_self, ↓reduceIte]; exact f7
            · simp only [cI_sI, cI_sJ, cI_sR, cI_sA, cI_sB, cI_sQ, cR_sI, cR_sJ, cR_sR, cR_sA, cR_sB, cR_sQ, cA_sI, cA_sJ, cA_sR, cA_sA, cA_sB, cA_sQ, Nat.reduceEqDiff, false_and, and_false, and_true, true_and, if_false, if_true, and_self, ↓reduceIte]; exact f4
            · simp only [cI_sI, cI_sJ, cI_sR, cI_sA, cI_sB, cI_sQ, cR_sI, cR_sJ, cR_sR, cR_sA, cR_sB, cR_sQ, cA_sI, cA_sJ, cA_sR, cA_sA, cA_sB, cA_sQ, Nat.reduceEqDiff, false_and, and_false, and_true, true_and, if_false, if_true, and_self, ↓reduceIte]; exact f5
            · simp only [cI_sI, cI_sJ, cI_sR, cI_sA, cI_sB, cI_sQ, cR_sI, cR_sJ, cR_sR, cR_sA, cR_sB, cR_sQ, cA_sI, cA_sJ, cA_sR, cA_sA, cA_sB, cA_sQ, Nat.reduceEqDiff, false_and, and_false, and_true, true_and, if_false, if_true, and_self, ↓reduceIte]; exact f6
            · simp only [cI_sI, cI_sJ, cI_sR, cI_sA, cI_sB, cI_sQ, cR_sI, cR_sJ, cR_sR, cR_sA, cR_sB, cR_sQ, cA_sI, cA_sJ, cA_sR, cA_sA, cA_sB, cA_sQ, Nat.reduceEqDiff, false_and, and_false, and_true, true_and, if_false, if_true, and_self, ↓reduceIte]; exact f11
            · simp only [cI_sI, cI_sJ, cI_sR, cI_sA, cI_sB, cI_sQ, cR_sI, cR_sJ, cR_sR, cR_sA, cR_sB, cR_sQ, cA_sI, cA_sJ, cA_sR, cA_sA, cA_sB, cA_sQ, Nat.reduceEqDiff, false_and, and_false, and_true, true_and, if_false, if_true, and_self, ↓reduceIte]; rfl
            · simp only [cI_sI, cI_sJ, cI_sR, cI_sA, cI_sB, cI_sQ, cR_sI, cR_sJ, cR_sR, cR_sA, cR_sB, cR_sQ, cA_sI, cA_sJ, cA_sR, cA_sA, cA_sB, cA_sQ, Nat.reduceEqDiff, false_and, and_false, and_true, true_and, if_false, if_true, and_self, ↓reduceIte]; exact f10
            · simp only [cI_sI, cI_sJ, cI_sR, cI_sA, cI_sB, cI_sQ, cR_sI, cR_sJ, cR_sR, cR_sA, cR_sB, cR_sQ, cA_sI, cA_sJ, cA_sR, cA_sA, cA_sB, cA_sQ, Nat.reduceEqDiff, false_and, and_false, and_true, true_and, if_false, if_true, and_self, ↓reduceIte]; rw [f11, nI_add]; rfl
          · rw [if_neg u2]
            have nu : ¬ nI (q mo) = nI aim := fun z => u2 ((nI_eq (by omega) (by omega)).mp z)
            by_cases u3 : 1000 ≤ tn x
            · rw [if_pos u3]
              refine rn_e (in_neg nu (in_neg (by rw [f10]; exact show ¬ nI (tn x) < nI 1000 from nI_nlt u3 (by omega)) (ob_mk rfl (ob_mk rfl rfl)))) (rn_r ⟨⟨aq, ot⟩, kp_tr k0 (kp_tr (kp_I (by decide)) (kp_I (by decide))), oth_tr o0 (oth_tr oth_I oth_I), ⟨f0, ?_, ?_, ?_, ?_, f9, ?_⟩, ?_, ?_, n1000, g2000, tb, fun z => absurd z (by show ¬ 2 = 0; decide), fun z => absurd z (by show ¬ 2 = 1; decide), fun _ => ?_, by show 2 ≤ 2; decide⟩)
              · simp only [cI_sI, cI_sJ, cI_sR, cI_sA, cI_sB, cI_sQ, cR_sI, cR_sJ, cR_sR, cR_sA, cR_sB, cR_sQ, cA_sI, cA_sJ, cA_sR, cA_sA, cA_sB, cA_sQ, Nat.reduceEqDiff, false_and, and_false, and_true, true_and, if_false, if_true, and_self, ↓reduceIte]; exact f7
              · simp only [cI_sI, cI_sJ, cI_sR, cI_sA, cI_sB, cI_sQ, cR_sI, cR_sJ, cR_sR, cR_sA, cR_sB, cR_sQ, cA_sI, cA_sJ, cA_sR, cA_sA, cA_sB, cA_sQ, Nat.reduceEqDiff, false_and, and_false, and_true, true_and, if_false, if_true, and_self, ↓reduceIte]; exact f4
              · simp only [cI_sI, cI_sJ, cI_sR, cI_sA, cI_sB, cI_sQ, cR_sI, cR_sJ, cR_sR, cR_sA, cR_sB, cR_sQ, cA_sI, cA_sJ, cA_sR, cA_sA, cA_sB, cA_sQ, Nat.reduceEqDiff, false_and, and_false, and_true, true_and, if_false, if_true, and_self, ↓reduceIte]; exact f5
              · simp only [cI_sI, cI_sJ, cI_sR, cI_sA, cI_sB, cI_sQ, cR_sI, cR_sJ, cR_sR, cR_sA, cR_sB, cR_sQ, cA_sI, cA_sJ, cA_sR, cA_sA, cA_sB, cA_sQ, Nat.reduceEqDiff, false_and, and_false, and_true, true_and, if_false, if_true, and_self, ↓reduceIte]; exact f6
              · simp only [cI_sI, cI_sJ, cI_sR, cI_sA, cI_sB, cI_sQ, cR_sI, cR_sJ, cR_sR, cR_sA, cR_sB, cR_sQ, cA_sI, cA_sJ, cA_sR, cA_sA, cA_sB, cA_sQ, Nat.reduceEqDiff, false_and, and_false, and_true, true_and, if_false, if_true, and_self, ↓reduceIte]; exact f11
              · simp only [cI_sI, cI_sJ, cI_sR, cI_sA, cI_sB, cI_sQ, cR_sI, cR_sJ, cR_sR, cR_sA, cR_sB, cR_sQ, cA_sI, cA_sJ, cA_sR, cA_sA, cA_sB, cA_sQ, Nat.reduceEqDiff, false_and, and_false, and_true, true_and, if_false, if_true, and_self, ↓reduceIte]; rfl
              · simp only [cI_sI, cI_sJ, cI_sR, cI_sA, cI_sB, cI_sQ, cR_sI, cR_sJ, cR_sR, cR_sA, cR_sB, cR_sQ, cA_sI, cA_sJ, cA_sR, cA_sA, cA_sB, cA_sQ, Nat.reduceEqDiff, false_and, and_false, and_true, true_and, if_false, if_true, and_self, ↓reduceIte]; exact f10
              · simp only [cI_sI, cI_sJ, cI_sR, cI_sA, cI_sB, cI_sQ, cR_sI, cR_sJ, cR_sR, cR_sA, cR_sB, cR_sQ, cA_sI, cA_sJ, cA_sR, cA_sA, cA_sB, cA_sQ, Nat.reduceEqDiff, false_and, and_false, and_true, true_and, if_false, if_true, and_self, ↓reduceIte]
            · rw [if_neg u3]
              have nl := aq_lt aq kl u1
              have ev : ((1 + cI c0 11 cr) + nI (gn S H a q) : Int32).toInt64 = lN (1 + gb + gn S H a q) := by rw [f11, show (1 : Int32) + nI gb = nI (1 + gb) from nI_add 1 gb, nI_add, nI_l (by omega)]
              have e307 : F_307 c6 c13 d sc (nI (kc S R H q)) (((1 + cI c0 11 cr) + nI (gn S H a q) : Int32).toInt64) (cI c0 10 cr) = some (nI (tn x + 1), sA (sB c13 0 P (vp_updL (cB c13 0 P) (kc S R H q) (((1 + cI c0 11 cr) + nI (gn S H a q) : Int32).toInt64))) 0 Pq (upd (cA c13 0 Pq) (tn x) (nI (kc S R H q)))) := by
                rw [f10]
                exact f_307 q12 q14 n1 n2 (by omega) (by omega) (by omega)
              refine rn_e (in_neg nu (in_pos (by rw [f10]; exact show nI (tn x) < nI 1000 from nI_lt (by omega) (by omega)) (ob_mk e307 (ob_mk rfl rfl)))) (rn_r ⟨⟨?_, ?_⟩, kp_tr k0 (kp_I (by decide)), oth_tr o0 oth_I, ⟨f0, ?_, ?_, ?_, ?_, f9, ?_⟩, ?_, ?_, ?_, g2000, fun s' hs' => ?_, fun _ => ?_, fun z => absurd z (by show ¬ 0 = 1; decide), fun z => absurd z (by show ¬ 0 = 2; decide), by show 0 ≤ 2; decide⟩)
              · refine aq_app aq kl u1 (v := 1 + gb + gn S H a q) (by omega) (fun s' hs' => ?_) (fun j hj => un_n (by omega)) un_s ?_ ?_
                · show un (tk x) (kc S R H q) (1 + gb + gn S H a q) s' = _
                  by_cases z : s' = kc S R H q
                  · rw [z, un_s, if_pos rfl]
                  · rw [un_n z, if_neg z]
                · try dsimp only
                  rw [cB_sA, cB_same, ev]
                · try dsimp only
                  rw [cA_same]
              · exact ota_tr ot (ota_tr (ota_o oth_B (by simp)) (ota_o oth_A (by simp)))
              · simp only [cI_sI, cI_sJ, cI_sR, cI_sA, cI_sB, cI_sQ, cR_sI, cR_sJ, cR_sR, cR_sA, cR_sB, cR_sQ, cA_sI, cA_sJ, cA_sR, cA_sA, cA_sB, cA_sQ, Nat.reduceEqDiff, false_and, and_false, and_true, true_and, if_false, if_true, and_self, ↓reduceIte]; exact f7
              · simp only [cI_sI, cI_sJ, cI_sR, cI_sA, cI_sB, cI_sQ, cR_sI, cR_sJ, cR_sR, cR_sA, cR_sB, cR_sQ, cA_sI, cA_sJ, cA_sR, cA_sA, cA_sB, cA_sQ, Nat.reduceEqDiff, false_and, and_false, and_true, true_and, if_false, if_true, and_self, ↓reduceIte]; exact f4
              · simp only [cI_sI, cI_sJ, cI_sR, cI_sA, cI_sB, cI_sQ, cR_sI, cR_sJ, cR_sR, cR_sA, cR_sB, cR_sQ, cA_sI, cA_sJ, cA_sR, cA_sA, cA_sB, cA_sQ, Nat.reduceEqDiff, false_and, and_false, and_true, true_and, if_false, if_true, and_self, ↓reduceIte]; exact f5
              · simp only [cI_sI, cI_sJ, cI_sR, cI_sA, cI_sB, cI_sQ, cR_sI, cR_sJ, cR_sR, cR_sA, cR_sB, cR_sQ, cA_sI, cA_sJ, cA_sR, cA_sA, cA_sB, cA_sQ, Nat.reduceEqDiff, false_and, and_false, and_true, true_and, if_false, if_true, and_self, ↓reduceIte]; exact f6
              · simp only [cI_sI, cI_sJ, cI_sR, cI_sA, cI_sB, cI_sQ, cR_sI, cR_sJ, cR_sR, cR_sA, cR_sB, cR_sQ, cA_sI, cA_sJ, cA_sR, cA_sA, cA_sB, cA_sQ, Nat.reduceEqDiff, false_and, and_false, and_true, true_and, if_false, if_true, and_self, ↓reduceIte]; exact f11
              · simp only [cI_sI, cI_sJ, cI_sR, cI_sA, cI_sB, cI_sQ, cR_sI, cR_sJ, cR_sR, cR_sA, cR_sB, cR_sQ, cA_sI, cA_sJ, cA_sR, cA_sA, cA_sB, cA_sQ, Nat.reduceEqDiff, false_and, and_false, and_true, true_and, if_false, if_true, and_self, ↓reduceIte]; rw [f8, hen]; rfl
              · show cI (sI c0 10 cr (nI (tn x + 1))) 10 cr = nI (tn x + 1)
                rw [cI_sI, if_pos ⟨rfl, rfl⟩]
              · show tn x + 1 ≤ 1000; omega
              · show un (tk x) (kc S R H q) (1 + gb + gn S H a q) s' ≤ 3000
                by_cases z : s' = kc S R H q
                · rw [z, un_s]; omega
                · rw [un_n z]; exact tb s' hs'
              · simp only [cI_sI, cI_sJ, cI_sR, cI_sA, cI_sB, cI_sQ, cR_sI, cR_sJ, cR_sR, cR_sA, cR_sB, cR_sQ, cA_sI, cA_sJ, cA_sR, cA_sA, cA_sB, cA_sQ, Nat.reduceEqDiff, false_and, and_false, and_true, true_and, if_false, if_true, and_self, ↓reduceIte]; exact t0 te0
        · have ec : come aim gb mi (kc S R H q) (q mo) (gn S H a q) x = x := by unfold come; rw [if_pos u1]
          rw [ec]
          exact rn_n (by rw [if_neg (fun z => u1 ((lN_z (by omega)).mp z))]; decide) (rn_r h1)
      · rw [if_neg w4]
        exact rn_p rfl (rn_r (no fun z => w4 z.2.2.2))
    · exact rn_n (fun z => w3 ((pk_lEQ (by omega) (by omega)).mp ((lg_cmp_eq _ _).mp z))) (rn_r (no fun z => w3 z.2.2.1))
  · exact rn_p (show nI 2 < nI (gn S H a q) from nI_lt (by omega) (by omega)) (rn_r (no fun z => w2 z.2.1))
end Theft
