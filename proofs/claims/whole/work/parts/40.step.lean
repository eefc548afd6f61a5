/-! ===== the law whole out of one lemma a call ===== -/
theorem ob_mk {α β : Type} {x : Option α} {f : α → Option β} {v : α} {r : β} (h : x = some v) (k : f v = some r) : (x >>= f) = some r := by subst h; exact k
theorem in_pos {α : Type} {c : Prop} [Decidable c] {a b : Option α} {r : α} (hc : c) (h : a = some r) : (if c then a else b) = some r := by rw [if_pos hc]; exact h
theorem in_neg {α : Type} {c : Prop} [Decidable c] {a b : Option α} {r : α} (hc : ¬ c) (h : b = some r) : (if c then a else b) = some r := by rw [if_neg hc]; exact h
theorem sc_ld {d : Ad} {L : Nat} {xs : Nat → Int32} (eL : aL d = L) (eT : aT d = xs) (hL : L ≤ 3072) {m j : Nat} (h : m + j < L) : ald (aT d) (aL d) (nI m + nI j) = some (xs (m + j)) := by
  rw [nI_add]
  unfold ald
  rw [eL, eT, if_neg (nI_in h (by omega)), nI_clamp (by omega)]
def bz (v : Int32) : Int32 := if v = 0 then 0 else 1
theorem bz_ok (v : Int32) : ((if v = 0 then some 0 else some 1) : Option Int32) = some (bz v) := by unfold bz; split <;> rfl
theorem bz_01 (v : Int32) : bz v = 0 ∨ bz v = 1 := by unfold bz; split <;> simp
/-- call 0 -/
def St_0 (I : Nat → Wd → Ad → Prop) (a1 a2 : Nat) : Prop := ∀ (n : Nat) (c0 c1 c2 c3 c4 c5 c6 c7 c8 c9 c10 c11 c12 c13 : Cl) (d : Ad), I n (mkw c0 c1 c2 c3 c4 c5 c6 c7 c8 c9 c10 c11 c12 c13) d → ∀ p1 p2 p3 p4 p5 : Int32, ∃ rx rm, F_123 c11 a1 p1 p2 p3 p4 p5 = some rx ∧ F_174 c12 a2 p1 p2 p3 p4 p5 = some rm ∧ rx.1 = rm.1 ∧ I (n + 1) (mkw c0 c1 c2 c3 c4 c5 c6 c7 c8 c9 c10 rx.2 rm.2 c13) d
/-- call 1 -/
def St_1 (I : Nat → Wd → Ad → Prop) (a1 a2 : Nat) : Prop := ∀ (n : Nat) (c0 c1 c2 c3 c4 c5 c6 c7 c8 c9 c10 c11 c12 c13 : Cl) (d : Ad), I n (mkw c0 c1 c2 c3 c4 c5 c6 c7 c8 c9 c10 c11 c12 c13) d → ∀ p1 : Int32, ∃ rx rm, F_124 c11 a1 p1 = some rx ∧ F_175 c12 a2 p1 = some rm ∧ rx.1 = rm.1 ∧ I (n + 1) (mkw c0 c1 c2 c3 c4 c5 c6 c7 c8 c9 c10 rx.2 rm.2 c13) d
/-- call 2 -/
def St_2 (I : Nat → Wd → Ad → Prop) (a1 a2 : Nat) : Prop := ∀ (n : Nat) (c0 c1 c2 c3 c4 c5 c6 c7 c8 c9 c10 c11 c12 c13 : Cl) (d : Ad), I n (mkw c0 c1 c2 c3 c4 c5 c6 c7 c8 c9 c10 c11 c12 c13) d → ∃ rx rm, F_125 c1 c2 c3 c7 c8 c10 c11 d a1 = some rx ∧ F_212 c12 a2 = some rm ∧ rx.1 = rm.1 ∧ I (n + 1) (mkw c0 rx.2.1 rx.2.2.1 rx.2.2.2.1 c4 c5 c6 rx.2.2.2.2.1 rx.2.2.2.2.2.1 c9 rx.2.2.2.2.2.2.1 rx.2.2.2.2.2.2.2.1 rm.2 c13) rx.2.2.2.2.2.2.2.2
/-- call 3 -/
def St_3 (I : Nat → Wd → Ad → Prop) (a1 a2 : Nat) : Prop := ∀ (n : Nat) (c0 c1 c2 c3 c4 c5 c6 c7 c8 c9 c10 c11 c12 c13 : Cl) (d : Ad), I n (mkw c0 c1 c2 c3 c4 c5 c6 c7 c8 c9 c10 c11 c12 c13) d → ∃ rx rm, F_126 c3 c4 c5 c11 c13 d a1 = some rx ∧ F_211 c12 a2 = some rm ∧ rx.1 = rm.1 ∧ I (n + 1) (mkw c0 c1 c2 rx.2.1 rx.2.2.1 rx.2.2.2.1 c6 c7 c8 c9 c10 rx.2.2.2.2.1 rm.2 rx.2.2.2.2.2.1) rx.2.2.2.2.2.2
/-- call 4 -/
def St_4 (I : Nat → Wd → Ad → Prop) (a1 a2 : Nat) : Prop := ∀ (n : Nat) (c0 c1 c2 c3 c4 c5 c6 c7 c8 c9 c10 c11 c12 c13 : Cl) (d : Ad), I n (mkw c0 c1 c2 c3 c4 c5 c6 c7 c8 c9 c10 c11 c12 c13) d → ∀ p1 p2 : Int32, ∃ rx rm, F_127 c1 c8 c10 c11 a1 p1 p2 = some rx ∧ F_233 c12 a2 p1 p2 = some rm ∧ rx = rm ∧ I (n + 1) (mkw c0 c1 c2 c3 c4 c5 c6 c7 c8 c9 c10 c11 c12 c13) d
/-- call 5 -/
def St_5 (I : Nat → Wd → Ad → Prop) (a1 a2 : Nat) : Prop := ∀ (n : Nat) (c0 c1 c2 c3 c4 c5 c6 c7 c8 c9 c10 c11 c12 c13 : Cl) (d : Ad), I n (mkw c0 c1 c2 c3 c4 c5 c6 c7 c8 c9 c10 c11 c12 c13) d → ∀ p1 p2 : Int32, ∃ rx rm, F_128 c1 c8 c10 c11 a1 p1 p2 = some rx ∧ F_235 c12 a2 p1 p2 = some rm ∧ rx = rm ∧ I (n + 1) (mkw c0 c1 c2 c3 c4 c5 c6 c7 c8 c9 c10 c11 c12 c13) d
/-- call 6 -/
def St_6 (I : Nat → Wd → Ad → Prop) (a1 a2 : Nat) : Prop := ∀ (n : Nat) (c0 c1 c2 c3 c4 c5 c6 c7 c8 c9 c10 c11 c12 c13 : Cl) (d : Ad), I n (mkw c0 c1 c2 c3 c4 c5 c6 c7 c8 c9 c10 c11 c12 c13) d → ∀ p1 p2 : Int32, ∃ rx rm, F_129 c1 c8 c10 c11 a1 p1 p2 = some rx ∧ F_236 c12 a2 p1 p2 = some rm ∧ rx = rm ∧ I (n + 1) (mkw c0 c1 c2 c3 c4 c5 c6 c7 c8 c9 c10 c11 c12 c13) d
/-- call 7 -/
def St_7 (I : Nat → Wd → Ad → Prop) (a1 a2 : Nat) : Prop := ∀ (n : Nat) (c0 c1 c2 c3 c4 c5 c6 c7 c8 c9 c10 c11 c12 c13 : Cl) (d : Ad), I n (mkw c0 c1 c2 c3 c4 c5 c6 c7 c8 c9 c10 c11 c12 c13) d → ∀ p1 p2 : Int32, ∃ rx rm, F_130 c1 c8 c10 c11 a1 p1 p2 = some rx ∧ F_237 c12 a2 p1 p2 = some rm ∧ rx = rm ∧ I (n + 1) (mkw c0 c1 c2 c3 c4 c5 c6 c7 c8 c9 c10 c11 c12 c13) d
/-- call 8 -/
def St_8 (I : Nat → Wd → Ad → Prop) (a1 a2 : Nat) : Prop := ∀ (n : Nat) (c0 c1 c2 c3 c4 c5 c6 c7 c8 c9 c10 c11 c12 c13 : Cl) (d : Ad), I n (mkw c0 c1 c2 c3 c4 c5 c6 c7 c8 c9 c10 c11 c12 c13) d → ∀ p1 p2 : Int32, ∃ rx rm, F_131 c1 c8 c10 c11 a1 p1 p2 = some rx ∧ F_238 c12 a2 p1 p2 = some rm ∧ rx = rm ∧ I (n + 1) (mkw c0 c1 c2 c3 c4 c5 c6 c7 c8 c9 c10 c11 c12 c13) d
/-- call 9 -/
def St_9 (I : Nat → Wd → Ad → Prop) (a1 a2 : Nat) : Prop := ∀ (n : Nat) (c0 c1 c2 c3 c4 c5 c6 c7 c8 c9 c10 c11 c12 c13 : Cl) (d : Ad), I n (mkw c0 c1 c2 c3 c4 c5 c6 c7 c8 c9 c10 c11 c12 c13) d → ∀ p1 p2 p3 : Int32, (p3 = 0 ∨ p3 = 1) → ∃ rx rm, F_132 c1 c7 c8 c10 c11 a1 p1 p2 p3 = some rx ∧ F_245 c12 a2 p1 p2 p3 = some rm ∧ rx.1 = rm.1 ∧ I (n + 1) (mkw c0 c1 c2 c3 c4 c5 c6 rx.2.1 rx.2.2.1 c9 rx.2.2.2 c11 rm.2 c13) d
/-- call 10 -/
def St_10 (I : Nat → Wd → Ad → Prop) (a1 a2 : Nat) : Prop := ∀ (n : Nat) (c0 c1 c2 c3 c4 c5 c6 c7 c8 c9 c10 c11 c12 c13 : Cl) (d : Ad), I n (mkw c0 c1 c2 c3 c4 c5 c6 c7 c8 c9 c10 c11 c12 c13) d → ∃ rx rm, F_133 c1 c8 c10 c11 a1 = some rx ∧ F_246 c12 a2 = some rm ∧ rx.1 = rm.1 ∧ I (n + 1) (mkw c0 c1 c2 c3 c4 c5 c6 c7 rx.2.1 c9 rx.2.2 c11 rm.2 c13) d
/-- call 11 -/
def St_11 (I : Nat → Wd → Ad → Prop) (a1 a2 : Nat) : Prop := ∀ (n : Nat) (c0 c1 c2 c3 c4 c5 c6 c7 c8 c9 c10 c11 c12 c13 : Cl) (d : Ad), I n (mkw c0 c1 c2 c3 c4 c5 c6 c7 c8 c9 c10 c11 c12 c13) d → ∀ p1 : Int32, ∃ rx rm, F_134 c1 c7 c8 c10 c11 a1 p1 = some rx ∧ F_247 c12 a2 p1 = some rm ∧ rx.1 = rm.1 ∧ I (n + 1) (mkw c0 c1 c2 c3 c4 c5 c6 rx.2.1 rx.2.2 c9 c10 c11 rm.2 c13) d
/-- call 12 -/
def St_12 (I : Nat → Wd → Ad → Prop) (a1 a2 : Nat) : Prop := ∀ (n : Nat) (c0 c1 c2 c3 c4 c5 c6 c7 c8 c9 c10 c11 c12 c13 : Cl) (d : Ad), I n (mkw c0 c1 c2 c3 c4 c5 c6 c7 c8 c9 c10 c11 c12 c13) d → ∀ p1 p2 : Int32, (p2 = 0 ∨ p2 = 1) → ∃ rx rm, F_135 c1 c7 c8 c10 c11 a1 p1 p2 = some rx ∧ F_248 c12 a2 p1 p2 = some rm ∧ rx.1 = rm.1 ∧ I (n + 1) (mkw c0 c1 c2 c3 c4 c5 c6 rx.2.1 rx.2.2 c9 c10 c11 rm.2 c13) d
/-- call 13 -/
def St_13 (I : Nat → Wd → Ad → Prop) (a1 a2 : Nat) : Prop := ∀ (n : Nat) (c0 c1 c2 c3 c4 c5 c6 c7 c8 c9 c10 c11 c12 c13 : Cl) (d : Ad), I n (mkw c0 c1 c2 c3 c4 c5 c6 c7 c8 c9 c10 c11 c12 c13) d → ∃ rx rm, F_136 c7 c8 c10 c11 a1 = some rx ∧ F_240 c12 a2 = some rm ∧ rx.1 = rm.1 ∧ I (n + 1) (mkw c0 c1 c2 c3 c4 c5 c6 rx.2.1 rx.2.2.1 c9 rx.2.2.2 c11 rm.2 c13) d
/-- call 14 -/
def St_14 (I : Nat → Wd → Ad → Prop) (a1 a2 : Nat) : Prop := ∀ (n : Nat) (c0 c1 c2 c3 c4 c5 c6 c7 c8 c9 c10 c11 c12 c13 : Cl) (d : Ad), I n (mkw c0 c1 c2 c3 c4 c5 c6 c7 c8 c9 c10 c11 c12 c13) d → ∀ p1 p2 : Int32, ∃ rx rm, F_137 c1 c4 c7 c8 c10 c11 c13 d a1 p1 p2 = some rx ∧ F_253 c12 a2 p1 p2 = some rm ∧ rx.1 = rm.1 ∧ I (n + 1) (mkw c0 c1 c2 c3 rx.2.1 c5 c6 rx.2.2.1 rx.2.2.2.1 c9 rx.2.2.2.2 c11 rm.2 c13) d
/-- call 15 -/
def St_15 (I : Nat → Wd → Ad → Prop) (a1 a2 : Nat) : Prop := ∀ (n : Nat) (c0 c1 c2 c3 c4 c5 c6 c7 c8 c9 c10 c11 c12 c13 : Cl) (d : Ad), I n (mkw c0 c1 c2 c3 c4 c5 c6 c7 c8 c9 c10 c11 c12 c13) d → ∀ p1 p2 : Int32, ∃ rx rm, F_138 c1 c4 c8 c10 c11 c13 d a1 p1 p2 = some rx ∧ F_251 c12 a2 p1 p2 = some rm ∧ rx.1 = rm.1 ∧ I (n + 1) (mkw c0 c1 c2 c3 rx.2 c5 c6 c7 c8 c9 c10 c11 rm.2 c13) d
/-- call 16 -/
def St_16 (I : Nat → Wd → Ad → Prop) (a1 a2 : Nat) : Prop := ∀ (n : Nat) (c0 c1 c2 c3 c4 c5 c6 c7 c8 c9 c10 c11 c12 c13 : Cl) (d : Ad), I n (mkw c0 c1 c2 c3 c4 c5 c6 c7 c8 c9 c10 c11 c12 c13) d → ∀ p1 p2 p3 : Int32, ∃ rx rm, F_139 c1 c7 c8 c10 c11 a1 p1 p2 p3 = some rx ∧ F_254 c12 a2 p1 p2 p3 = some rm ∧ rx.1 = rm.1 ∧ I (n + 1) (mkw c0 c1 c2 c3 c4 c5 c6 rx.2.1 c8 c9 rx.2.2 c11 rm.2 c13) d
/-- call 17 -/
def St_17 (I : Nat → Wd → Ad → Prop) (a1 a2 : Nat) : Prop := ∀ (n : Nat) (c0 c1 c2 c3 c4 c5 c6 c7 c8 c9 c10 c11 c12 c13 : Cl) (d : Ad), I n (mkw c0 c1 c2 c3 c4 c5 c6 c7 c8 c9 c10 c11 c12 c13) d → ∃ rx rm, F_140 c1 c6 c7 c8 c10 c11 c13 d a1 = some rx ∧ F_264 c12 a2 = some rm ∧ (lg_cmp rx.1 rm.1) = 0 ∧ I (n + 1) (mkw c0 c1 c2 c3 c4 c5 rx.2.1 rx.2.2.1 c8 c9 c10 c11 rm.2 rx.2.2.2.1) rx.2.2.2.2
/-- call 18 -/
def St_18 (I : Nat → Wd → Ad → Prop) (a1 a2 : Nat) : Prop := ∀ (n : Nat) (c0 c1 c2 c3 c4 c5 c6 c7 c8 c9 c10 c11 c12 c13 : Cl) (d : Ad), I n (mkw c0 c1 c2 c3 c4 c5 c6 c7 c8 c9 c10 c11 c12 c13) d → ∀ p1 : Int32, ∃ rx rm, F_141 c1 c6 c7 c8 c10 c11 c13 d a1 p1 = some rx ∧ F_265 c12 a2 p1 = some rm ∧ rx.1 = rm.1 ∧ I (n + 1) (mkw c0 c1 c2 c3 c4 c5 rx.2.1 rx.2.2.1 c8 c9 c10 c11 rm.2 rx.2.2.2.1) rx.2.2.2.2
/-- call 19 -/
def St_19 (I : Nat → Wd → Ad → Prop) (a1 a2 : Nat) : Prop := ∀ (n : Nat) (c0 c1 c2 c3 c4 c5 c6 c7 c8 c9 c10 c11 c12 c13 : Cl) (d : Ad), I n (mkw c0 c1 c2 c3 c4 c5 c6 c7 c8 c9 c10 c11 c12 c13) d → ∃ rx rm, F_142 c1 c6 c7 c8 c10 c11 c13 d a1 = some rx ∧ F_266 c12 a2 = some rm ∧ rx.1 = rm.1 ∧ I (n + 1) (mkw c0 c1 c2 c3 c4 c5 rx.2.1 rx.2.2.1 c8 c9 c10 c11 rm.2 rx.2.2.2.1) rx.2.2.2.2
/-- call 20 -/
def St_20 (I : Nat → Wd → Ad → Prop) (a1 a2 : Nat) : Prop := ∀ (n : Nat) (c0 c1 c2 c3 c4 c5 c6 c7 c8 c9 c10 c11 c12 c13 : Cl) (d : Ad), I n (mkw c0 c1 c2 c3 c4 c5 c6 c7 c8 c9 c10 c11 c12 c13) d → ∀ p1 : Int32, ∃ rx rm, F_143 c1 c6 c7 c8 c10 c11 c13 d a1 p1 = some rx ∧ F_268 c12 a2 p1 = some rm ∧ rx.1 = rm.1 ∧ I (n + 1) (mkw c0 c1 c2 c3 c4 c5 rx.2.1 rx.2.2.1 c8 c9 c10 c11 rm.2 rx.2.2.2.1) rx.2.2.2.2
/-- call 21 -/
def St_21 (I : Nat → Wd → Ad → Prop) (a1 a2 : Nat) : Prop := ∀ (n : Nat) (c0 c1 c2 c3 c4 c5 c6 c7 c8 c9 c10 c11 c12 c13 : Cl) (d : Ad), I n (mkw c0 c1 c2 c3 c4 c5 c6 c7 c8 c9 c10 c11 c12 c13) d → ∀ p1 : Int32, ∃ rx rm, F_144 c1 c6 c8 c9 c10 c11 a1 p1 = some rx ∧ F_273 c12 a2 p1 = some rm ∧ rx.1 = rm.1 ∧ I (n + 1) (mkw c0 c1 c2 c3 c4 c5 rx.2.1 c7 c8 rx.2.2 c10 c11 rm.2 c13) d
/-- call 22 -/
def St_22 (I : Nat → Wd → Ad → Prop) (a1 a2 : Nat) : Prop := ∀ (n : Nat) (c0 c1 c2 c3 c4 c5 c6 c7 c8 c9 c10 c11 c12 c13 : Cl) (d : Ad), I n (mkw c0 c1 c2 c3 c4 c5 c6 c7 c8 c9 c10 c11 c12 c13) d → ∃ rx rm, F_145 c1 c6 c8 c9 c10 c11 a1 = some rx ∧ F_274 c12 a2 = some rm ∧ rx.1 = rm.1 ∧ I (n + 1) (mkw c0 c1 c2 c3 c4 c5 rx.2.1 c7 c8 rx.2.2 c10 c11 rm.2 c13) d
/-- call 23 -/
def St_23 (I : Nat → Wd → Ad → Prop) (a1 a2 : Nat) : Prop := ∀ (n : Nat) (c0 c1 c2 c3 c4 c5 c6 c7 c8 c9 c10 c11 c12 c13 : Cl) (d : Ad), I n (mkw c0 c1 c2 c3 c4 c5 c6 c7 c8 c9 c10 c11 c12 c13) d → ∀ p1 p2 p3 : Int32, ∃ rx rm, F_146 c0 c1 c6 c8 c10 c11 c13 d a1 p1 p2 p3 = some rx ∧ F_278 c12 a2 p1 p2 p3 = some rm ∧ rx.1 = rm.1 ∧ I (n + 1) (mkw rx.2.1 c1 c2 c3 c4 c5 rx.2.2.1 c7 c8 c9 c10 c11 rm.2 rx.2.2.2) d
/-- call 24 -/
def St_24 (I : Nat → Wd → Ad → Prop) (a1 a2 : Nat) : Prop := ∀ (n : Nat) (c0 c1 c2 c3 c4 c5 c6 c7 c8 c9 c10 c11 c12 c13 : Cl) (d : Ad), I n (mkw c0 c1 c2 c3 c4 c5 c6 c7 c8 c9 c10 c11 c12 c13) d → ∀ p1 p2 p3 : Int32, ∃ rx rm, F_147 c0 c1 c6 c8 c10 c11 c13 d a1 p1 p2 p3 = some rx ∧ F_283 c12 a2 p1 p2 p3 = some rm ∧ rx.1 = rm.1 ∧ I (n + 1) (mkw rx.2.1 c1 c2 c3 c4 c5 rx.2.2.1 c7 c8 c9 c10 c11 rm.2 rx.2.2.2.1) rx.2.2.2.2
/-- call 25 -/
def St_25 (I : Nat → Wd → Ad → Prop) (a1 a2 : Nat) : Prop := ∀ (n : Nat) (c0 c1 c2 c3 c4 c5 c6 c7 c8 c9 c10 c11 c12 c13 : Cl) (d : Ad), I n (mkw c0 c1 c2 c3 c4 c5 c6 c7 c8 c9 c10 c11 c12 c13) d → ∀ p1 p2 p3 : Int32, ∃ rx rm, F_148 c1 c6 c7 c8 c10 c11 c13 d a1 p1 p2 p3 = some rx ∧ F_285 c12 a2 p1 p2 p3 = some rm ∧ rx.1 = rm.1 ∧ I (n + 1) (mkw c0 c1 c2 c3 c4 c5 rx.2.1 rx.2.2.1 c8 c9 c10 c11 rm.2 rx.2.2.2.1) rx.2.2.2.2
/-- call 26 -/
def St_26 (I : Nat → Wd → Ad → Prop) (a1 a2 : Nat) : Prop := ∀ (n : Nat) (c0 c1 c2 c3 c4 c5 c6 c7 c8 c9 c10 c11 c12 c13 : Cl) (d : Ad), I n (mkw c0 c1 c2 c3 c4 c5 c6 c7 c8 c9 c10 c11 c12 c13) d → ∀ p1 p2 : Int32, ∃ rx rm, F_149 c1 c6 c8 c9 c10 c11 c13 d a1 p1 p2 = some rx ∧ F_290 c12 a2 p1 p2 = some rm ∧ (lg_cmp rx.1 rm.1) = 0 ∧ I (n + 1) (mkw c0 c1 c2 c3 c4 c5 rx.2.1 c7 c8 rx.2.2.1 c10 c11 rm.2 rx.2.2.2) d
/-- call 27 -/
def St_27 (I : Nat → Wd → Ad → Prop) (a1 a2 : Nat) : Prop := ∀ (n : Nat) (c0 c1 c2 c3 c4 c5 c6 c7 c8 c9 c10 c11 c12 c13 : Cl) (d : Ad), I n (mkw c0 c1 c2 c3 c4 c5 c6 c7 c8 c9 c10 c11 c12 c13) d → ∀ p1 : Int32, ∃ rx rm, F_150 c1 c6 c8 c9 c10 c11 a1 p1 = some rx ∧ F_291 c12 a2 p1 = some rm ∧ rx.1 = rm ∧ I (n + 1) (mkw c0 c1 c2 c3 c4 c5 rx.2 c7 c8 c9 c10 c11 c12 c13) d
/-- call 28 -/
def St_28 (I : Nat → Wd → Ad → Prop) (a1 a2 : Nat) : Prop := ∀ (n : Nat) (c0 c1 c2 c3 c4 c5 c6 c7 c8 c9 c10 c11 c12 c13 : Cl) (d : Ad), I n (mkw c0 c1 c2 c3 c4 c5 c6 c7 c8 c9 c10 c11 c12 c13) d → ∀ p1 : Int32, ∃ rx rm, F_151 c10 c11 a1 p1 = some rx ∧ F_292 c12 a2 p1 = some rm ∧ rx.1 = rm.1 ∧ I (n + 1) (mkw c0 c1 c2 c3 c4 c5 c6 c7 c8 c9 rx.2 c11 rm.2 c13) d
/-- call 29 -/
def St_29 (I : Nat → Wd → Ad → Prop) (a1 a2 : Nat) : Prop := ∀ (n : Nat) (c0 c1 c2 c3 c4 c5 c6 c7 c8 c9 c10 c11 c12 c13 : Cl) (d : Ad), I n (mkw c0 c1 c2 c3 c4 c5 c6 c7 c8 c9 c10 c11 c12 c13) d → ∀ p1 p2 p3 p4 p5 : Int32, ∃ rx rm, F_152 c1 c8 c10 c11 a1 p1 p2 p3 p4 p5 = some rx ∧ F_295 c12 a2 p1 p2 p3 p4 p5 = some rm ∧ rx.1 = rm.1 ∧ I (n + 1) (mkw c0 c1 c2 c3 c4 c5 c6 c7 rx.2.1 c9 c10 rx.2.2 rm.2 c13) d
/-- call 30 -/
def St_30 (I : Nat → Wd → Ad → Prop) (a1 a2 : Nat) : Prop := ∀ (n : Nat) (c0 c1 c2 c3 c4 c5 c6 c7 c8 c9 c10 c11 c12 c13 : Cl) (d : Ad), I n (mkw c0 c1 c2 c3 c4 c5 c6 c7 c8 c9 c10 c11 c12 c13) d → ∀ p1 : Int32, ∃ rx rm, F_153 c1 c8 c10 c11 a1 p1 = some rx ∧ F_296 c12 a2 p1 = some rm ∧ rx = rm ∧ I (n + 1) (mkw c0 c1 c2 c3 c4 c5 c6 c7 c8 c9 c10 c11 c12 c13) d
/-- call 31 -/
def St_31 (I : Nat → Wd → Ad → Prop) (a1 a2 : Nat) : Prop := ∀ (n : Nat) (c0 c1 c2 c3 c4 c5 c6 c7 c8 c9 c10 c11 c12 c13 : Cl) (d : Ad), I n (mkw c0 c1 c2 c3 c4 c5 c6 c7 c8 c9 c10 c11 c12 c13) d → ∀ p1 : Int32, ∃ rx rm, F_154 c8 c10 c11 d a1 p1 = some rx ∧ F_297 c12 a2 p1 = some rm ∧ rx.1 = rm.1 ∧ I (n + 1) (mkw c0 c1 c2 c3 c4 c5 c6 c7 rx.2.1 c9 rx.2.2.1 rx.2.2.2.1 rm.2 c13) rx.2.2.2.2
/-- call 32 -/
def St_32 (I : Nat → Wd → Ad → Prop) (a1 a2 : Nat) : Prop := ∀ (n : Nat) (c0 c1 c2 c3 c4 c5 c6 c7 c8 c9 c10 c11 c12 c13 : Cl) (d : Ad), I n (mkw c0 c1 c2 c3 c4 c5 c6 c7 c8 c9 c10 c11 c12 c13) d → ∀ p1 : Int32, ∃ rx rm, F_155 c7 c8 c10 c11 a1 p1 = some rx ∧ F_298 c12 a2 p1 = some rm ∧ rx.1 = rm.1 ∧ I (n + 1) (mkw c0 c1 c2 c3 c4 c5 c6 rx.2.1 rx.2.2.1 c9 rx.2.2.2 c11 rm.2 c13) d
set_option maxRecDepth 100000 in
set_option maxHeartbeats 4000000 in
theorem law_all {I : Nat → Wd → Ad → Prop} {sc a1 a2 L : Nat} {xs : Nat → Int32} (hL : L ≤ 3072) (hI : ∀ n w d, I n w d → aL d = L ∧ aT d = xs) (hm : ∀ n w d, I n w d → I (n + 1) w d) (s0 : St_0 I a1 a2) (s1 : St_1 I a1 a2) (s2 : St_2 I a1 a2) (s3 : St_3 I a1 a2) (s4 : St_4 I a1 a2) (s5 : St_5 I a1 a2) (s6 : St_6 I a1 a2) (s7 : St_7 I a1 a2) (s8 : St_8 I a1 a2) (s9 : St_9 I a1 a2) (s10 : St_10 I a1 a2) (s11 : St_11 I a1 a2) (s12 : St_12 I a1 a2) (s13 : St_13 I a1 a2) (s14 : St_14 I a1 a2) (s15 : St_15 I a1 a2) (s16 : St_16 I a1 a2) (s17 : St_17 I a1 a2) (s18 : St_18 I a1 a2) (s19 : St_19 I a1 a2) (s20 : St_20 I a1 a2) (s21 : St_21 I a1 a2) (s22 : St_22 I a1 a2) (s23 : St_23 I a1 a2) (s24 : St_24 I a1 a2) (s25 : St_25 I a1 a2) (s26 : St_26 I a1 a2) (s27 : St_27 I a1 a2) (s28 : St_28 I a1 a2) (s29 : St_29 I a1 a2) (s30 : St_30 I a1 a2) (s31 : St_31 I a1 a2) (s32 : St_32 I a1 a2) : ∀ (fuel n : Nat) (c0 c1 c2 c3 c4 c5 c6 c7 c8 c9 c10 c11 c12 c13 : Cl) (d : Ad), 513 ≤ fuel + n → 6 * n ≤ L → I n (mkw c0 c1 c2 c3 c4 c5 c6 c7 c8 c9 c10 c11 c12 c13) d → ∃ n' r, G_306 sc a1 a2 fuel 0 [nI (6 * n)] [] [] c0 c1 c2 c3 c4 c5 c6 c7 c8 c9 c10 c11 c12 c13 d = some r ∧ r.1 = 1 ∧ n' ≤ 512 ∧ I n' (mkw r.2.1 r.2.2.1 r.2.2.2.1 r.2.2.2.2.1 r.2.2.2.2.2.1 r.2.2.2.2.2.2.1 r.2.2.2.2.2.2.2.1 r.2.2.2.2.2.2.2.2.1 r.2.2.2.2.2.2.2.2.2.1 r.2.2.2.2.2.2.2.2.2.2.1 r.2.2.2.2.2.2.2.2.2.2.2.1 r.2.2.2.2.2.2.2.2.2.2.2.2.1 r.2.2.2.2.2.2.2.2.2.2.2.2.2.1 r.2.2.2.2.2.2.2.2.2.2.2.2.2.2.1) r.2.2.2.2.2.2.2.2.2.2.2.2.2.2.2 := by
  intro fuel
  induction fuel with
  | zero => intro n c0 c1 c2 c3 c4 c5 c6 c7 c8 c9 c10 c11 c12 c13 d hf hn h; omega
  | succ fuel ih =>
    intro n c0 c1 c2 c3 c4 c5 c6 c7 c8 c9 c10 c11 c12 c13 d hf hn h
    obtain ⟨eL, eT⟩ := hI _ _ _ h
    have e6 : (Int32.ofNat (aL d) - 6 : Int32).toInt = (L : Int) - 6 := by
      rw [eL]; exact pk_sub_toInt (a := L) (b := 6) (by omega) (by omega)
    have en : (nI (6 * n)).toInt = ((6 * n : Nat) : Int) := nI_toInt (by omega)
    have nx : nI (6 * n) + 6 = nI (6 * (n + 1)) := nI_add (6 * n) 6
    rw [G_306]
    by_cases hc : L < 6 * n + 6
    · exact ⟨n, _, in_pos (Int32.lt_iff_toInt_lt.mpr (by rw [e6, en]; omega)) rfl, rfl, by omega, h⟩
    · have hc2 : ¬ (Int32.ofNat (aL d) - 6 < nI (6 * n)) := fun q => by
        have := Int32.lt_iff_toInt_lt.mp q
        rw [e6, en] at this
        omega
      have zz : ∀ j, j < L → ald (aT d) (aL d) (nI j) = some (xs j) := fun j hj => by
        unfold ald
        rw [eL, eT, if_neg (nI_in hj (by omega)), nI_clamp (by omega)]
      have z0 := zz (6 * n) (by omega)
      have z1 : ald (aT d) (aL d) (nI (6 * n) + 1) = some (xs (6 * n + 1)) := by rw [show nI (6 * n) + 1 = nI (6 * n + 1) from nI_add (6 * n) 1]; exact zz _ (by omega)
      have z2 : ald (aT d) (aL d) (nI (6 * n) + 2) = some (xs (6 * n + 2)) := by rw [show nI (6 * n) + 2 = nI (6 * n + 2) from nI_add (6 * n) 2]; exact zz _ (by omega)
      have z3 : ald (aT d) (aL d) (nI (6 * n) + 3) = some (xs (6 * n + 3)) := by rw [show nI (6 * n) + 3 = nI (6 * n + 3) from nI_add (6 * n) 3]; exact zz _ (by omega)
      have z4 : ald (aT d) (aL d) (nI (6 * n) + 4) = some (xs (6 * n + 4)) := by rw [show nI (6 * n) + 4 = nI (6 * n + 4) from nI_add (6 * n) 4]; exact zz _ (by omega)
      have z5 : ald (aT d) (aL d) (nI (6 * n) + 5) = some (xs (6 * n + 5)) := by rw [show nI (6 * n) + 5 = nI (6 * n + 5) from nI_add (6 * n) 5]; exact zz _ (by omega)
      by_cases h0 : xs (6 * n) &&& 63 = 0
      · obtain ⟨rx, rm, hx, hm, he, hi⟩ := s0 n _ _ _ _ _ _ _ _ _ _ _ _ _ _ d h (xs (6 * n + 1)) (xs (6 * n + 2)) (xs (6 * n + 3)) (xs (6 * n + 4)) (xs (6 * n + 5))
        obtain ⟨n', r, hr, q1, q2, q3⟩ := ih (n + 1) _ _ _ _ _ _ _ _ _ _ _ _ _ _ _ (by omega) (by omega) hi
        exact ⟨n', r, in_neg hc2 (ob_mk z0 (in_pos h0 (ob_mk z1 (ob_mk z2 (ob_mk z3 (ob_mk z4 (ob_mk z5 (ob_mk hx (ob_mk z1 (ob_mk z2 (ob_mk z3 (ob_mk z4 (ob_mk z5 (ob_mk hm (in_pos he (by rw [nx]; exact hr)))))))))))))))), q1, q2, q3⟩
      by_cases h1 : xs (6 * n) &&& 63 = 1
      · obtain ⟨rx, rm, hx, hm, he, hi⟩ := s1 n _ _ _ _ _ _ _ _ _ _ _ _ _ _ d h (xs (6 * n + 1))
        obtain ⟨n', r, hr, q1, q2, q3⟩ := ih (n + 1) _ _ _ _ _ _ _ _ _ _ _ _ _ _ _ (by omega) (by omega) hi
        exact ⟨n', r, in_neg hc2 (ob_mk z0 (in_neg h0 (in_pos h1 (ob_mk z1 (ob_mk hx (ob_mk z1 (ob_mk hm (in_pos he (by rw [nx]; exact hr))))))))), q1, q2, q3⟩
      by_cases h2 : xs (6 * n) &&& 63 = 2
      · obtain ⟨rx, rm, hx, hm, he, hi⟩ := s2 n _ _ _ _ _ _ _ _ _ _ _ _ _ _ d h 
        obtain ⟨n', r, hr, q1, q2, q3⟩ := ih (n + 1) _ _ _ _ _ _ _ _ _ _ _ _ _ _ _ (by omega) (by omega) hi
        exact ⟨n', r, in_neg hc2 (ob_mk z0 (in_neg h0 (in_neg h1 (in_pos h2 (ob_mk hx (ob_mk hm (in_pos he (by rw [nx]; exact hr)))))))), q1, q2, q3⟩
      by_cases h3 : xs (6 * n) &&& 63 = 3
      · obtain ⟨rx, rm, hx, hm, he, hi⟩ := s3 n _ _ _ _ _ _ _ _ _ _ _ _ _ _ d h 
        obtain ⟨n', r, hr, q1, q2, q3⟩ := ih (n + 1) _ _ _ _ _ _ _ _ _ _ _ _ _ _ _ (by omega) (by omega) hi
        exact ⟨n', r, in_neg hc2 (ob_mk z0 (in_neg h0 (in_neg h1 (in_neg h2 (in_pos h3 (ob_mk hx (ob_mk hm (in_pos he (by rw [nx]; exact hr))))))))), q1, q2, q3⟩
      by_cases h4 : xs (6 * n) &&& 63 = 4
      · obtain ⟨rx, rm, hx, hm, he, hi⟩ := s4 n _ _ _ _ _ _ _ _ _ _ _ _ _ _ d h (xs (6 * n + 1)) (xs (6 * n + 2))
        obtain ⟨n', r, hr, q1, q2, q3⟩ := ih (n + 1) _ _ _ _ _ _ _ _ _ _ _ _ _ _ _ (by omega) (by omega) hi
        exact ⟨n', r, in_neg hc2 (ob_mk z0 (in_neg h0 (in_neg h1 (in_neg h2 (in_neg h3 (in_pos h4 (ob_mk z1 (ob_mk z2 (ob_mk hx (ob_mk z1 (ob_mk z2 (ob_mk hm (in_pos he (by rw [nx]; exact hr)))))))))))))), q1, q2, q3⟩
      by_cases h5 : xs (6 * n) &&& 63 = 5
      · obtain ⟨rx, rm, hx, hm, he, hi⟩ := s5 n _ _ _ _ _ _ _ _ _ _ _ _ _ _ d h (xs (6 * n + 1)) (xs (6 * n + 2))
        obtain ⟨n', r, hr, q1, q2, q3⟩ := ih (n + 1) _ _ _ _ _ _ _ _ _ _ _ _ _ _ _ (by omega) (by omega) hi
        exact ⟨n', r, in_neg hc2 (ob_mk z0 (in_neg h0 (in_neg h1 (in_neg h2 (in_neg h3 (in_neg h4 (in_pos h5 (ob_mk z1 (ob_mk z2 (ob_mk hx (ob_mk z1 (ob_mk z2 (ob_mk hm (in_pos he (by rw [nx]; exact hr))))))))))))))), q1, q2, q3⟩
      by_cases h6 : xs (6 * n) &&& 63 = 6
      · obtain ⟨rx, rm, hx, hm, he, hi⟩ := s6 n _ _ _ _ _ _ _ _ _ _ _ _ _ _ d h (xs (6 * n + 1)) (xs (6 * n + 2))
        obtain ⟨n', r, hr, q1, q2, q3⟩ := ih (n + 1) _ _ _ _ _ _ _ _ _ _ _ _ _ _ _ (by omega) (by omega) hi
        exact ⟨n', r, in_neg hc2 (ob_mk z0 (in_neg h0 (in_neg h1 (in_neg h2 (in_neg h3 (in_neg h4 (in_neg h5 (in_pos h6 (ob_mk z1 (ob_mk z2 (ob_mk hx (ob_mk z1 (ob_mk z2 (ob_mk hm (in_pos he (by rw [nx]; exact hr)))))))))))))))), q1, q2, q3⟩
      by_cases h7 : xs (6 * n) &&& 63 = 7
      · obtain ⟨rx, rm, hx, hm, he, hi⟩ := s7 n _ _ _ _ _ _ _ _ _ _ _ _ _ _ d h (xs (6 * n + 1)) (xs (6 * n + 2))
        obtain ⟨n', r, hr, q1, q2, q3⟩ := ih (n + 1) _ _ _ _ _ _ _ _ _ _ _ _ _ _ _ (by omega) (by omega) hi
        exact ⟨n', r, in_neg hc2 (ob_mk z0 (in_neg h0 (in_neg h1 (in_neg h2 (in_neg h3 (in_neg h4 (in_neg h5 (in_neg h6 (in_pos h7 (ob_mk z1 (ob_mk z2 (ob_mk hx (ob_mk z1 (ob_mk z2 (ob_mk hm (in_pos he (by rw [nx]; exact hr))))))))))))))))), q1, q2, q3⟩
      by_cases h8 : xs (6 * n) &&& 63 = 8
      · obtain ⟨rx, rm, hx, hm, he, hi⟩ := s8 n _ _ _ _ _ _ _ _ _ _ _ _ _ _ d h (xs (6 * n + 1)) (xs (6 * n + 2))
        obtain ⟨n', r, hr, q1, q2, q3⟩ := ih (n + 1) _ _ _ _ _ _ _ _ _ _ _ _ _ _ _ (by omega) (by omega) hi
        exact ⟨n', r, in_neg hc2 (ob_mk z0 (in_neg h0 (in_neg h1 (in_neg h2 (in_neg h3 (in_neg h4 (in_neg h5 (in_neg h6 (in_neg h7 (in_pos h8 (ob_mk z1 (ob_mk z2 (ob_mk hx (ob_mk z1 (ob_mk z2 (ob_mk hm (in_pos he (by rw [nx]; exact hr)))))))))))))))))), q1, q2, q3⟩
      by_cases h9 : xs (6 * n) &&& 63 = 9
      · obtain ⟨rx, rm, hx, hm, he, hi⟩ := s9 n _ _ _ _ _ _ _ _ _ _ _ _ _ _ d h (xs (6 * n + 1)) (xs (6 * n + 2)) (bz (xs (6 * n + 3))) (bz_01 _)
        obtain ⟨n', r, hr, q1, q2, q3⟩ := ih (n + 1) _ _ _ _ _ _ _ _ _ _ _ _ _ _ _ (by omega) (by omega) hi
        exact ⟨n', r, in_neg hc2 (ob_mk z0 (in_neg h0 (in_neg h1 (in_neg h2 (in_neg h3 (in_neg h4 (in_neg h5 (in_neg h6 (in_neg h7 (in_neg h8 (in_pos h9 (ob_mk z1 (ob_mk z2 (ob_mk z3 (ob_mk (bz_ok _) (ob_mk hx (ob_mk z1 (ob_mk z2 (ob_mk z3 (ob_mk (bz_ok _) (ob_mk hm (in_pos he (by rw [nx]; exact hr))))))))))))))))))))))), q1, q2, q3⟩
      by_cases h10 : xs (6 * n) &&& 63 = 10
      · obtain ⟨rx, rm, hx, hm, he, hi⟩ := s10 n _ _ _ _ _ _ _ _ _ _ _ _ _ _ d h 
        obtain ⟨n', r, hr, q1, q2, q3⟩ := ih (n + 1) _ _ _ _ _ _ _ _ _ _ _ _ _ _ _ (by omega) (by omega) hi
        exact ⟨n', r, in_neg hc2 (ob_mk z0 (in_neg h0 (in_neg h1 (in_neg h2 (in_neg h3 (in_neg h4 (in_neg h5 (in_neg h6 (in_neg h7 (in_neg h8 (in_neg h9 (in_pos h10 (ob_mk hx (ob_mk hm (in_pos he (by rw [nx]; exact hr)))))))))))))))), q1, q2, q3⟩
      by_cases h11 : xs (6 * n) &&& 63 = 11
      · obtain ⟨rx, rm, hx, hm, he, hi⟩ := s11 n _ _ _ _ _ _ _ _ _ _ _ _ _ _ d h (xs (6 * n + 1))
        obtain ⟨n', r, hr, q1, q2, q3⟩ := ih (n + 1) _ _ _ _ _ _ _ _ _ _ _ _ _ _ _ (by omega) (by omega) hi
        exact ⟨n', r, in_neg hc2 (ob_mk z0 (in_neg h0 (in_neg h1 (in_neg h2 (in_neg h3 (in_neg h4 (in_neg h5 (in_neg h6 (in_neg h7 (in_neg h8 (in_neg h9 (in_neg h10 (in_pos h11 (ob_mk z1 (ob_mk hx (ob_mk z1 (ob_mk hm (in_pos he (by rw [nx]; exact hr))))))))))))))))))), q1, q2, q3⟩
      by_cases h12 : xs (6 * n) &&& 63 = 12
      · obtain ⟨rx, rm, hx, hm, he, hi⟩ := s12 n _ _ _ _ _ _ _ _ _ _ _ _ _ _ d h (xs (6 * n + 1)) (bz (xs (6 * n + 2))) (bz_01 _)
        obtain ⟨n', r, hr, q1, q2, q3⟩ := ih (n + 1) _ _ _ _ _ _ _ _ _ _ _ _ _ _ _ (by omega) (by omega) hi
        exact ⟨n', r, in_neg hc2 (ob_mk z0 (in_neg h0 (in_neg h1 (in_neg h2 (in_neg h3 (in_neg h4 (in_neg h5 (in_neg h6 (in_neg h7 (in_neg h8 (in_neg h9 (in_neg h10 (in_neg h11 (in_pos h12 (ob_mk z1 (ob_mk z2 (ob_mk (bz_ok _) (ob_mk hx (ob_mk z1 (ob_mk z2 (ob_mk (bz_ok _) (ob_mk hm (in_pos he (by rw [nx]; exact hr)))))))))))))))))))))))), q1, q2, q3⟩
      by_cases h13 : xs (6 * n) &&& 63 = 13
      · obtain ⟨rx, rm, hx, hm, he, hi⟩ := s13 n _ _ _ _ _ _ _ _ _ _ _ _ _ _ d h 
        obtain ⟨n', r, hr, q1, q2, q3⟩ := ih (n + 1) _ _ _ _ _ _ _ _ _ _ _ _ _ _ _ (by omega) (by omega) hi
        exact ⟨n', r, in_neg hc2 (ob_mk z0 (in_neg h0 (in_neg h1 (in_neg h2 (in_neg h3 (in_neg h4 (in_neg h5 (in_neg h6 (in_neg h7 (in_neg h8 (in_neg h9 (in_neg h10 (in_neg h11 (in_neg h12 (in_pos h13 (ob_mk hx (ob_mk hm (in_pos he (by rw [nx]; exact hr))))))))))))))))))), q1, q2, q3⟩
      by_cases h14 : xs (6 * n) &&& 63 = 14
      · obtain ⟨rx, rm, hx, hm, he, hi⟩ := s14 n _ _ _ _ _ _ _ _ _ _ _ _ _ _ d h (xs (6 * n + 1)) (xs (6 * n + 2))
        obtain ⟨n', r, hr, q1, q2, q3⟩ := ih (n + 1) _ _ _ _ _ _ _ _ _ _ _ _ _ _ _ (by omega) (by omega) hi
        exact ⟨n', r, in_neg hc2 (ob_mk z0 (in_neg h0 (in_neg h1 (in_neg h2 (in_neg h3 (in_neg h4 (in_neg h5 (in_neg h6 (in_neg h7 (in_neg h8 (in_neg h9 (in_neg h10 (in_neg h11 (in_neg h12 (in_neg h13 (in_pos h14 (ob_mk z1 (ob_mk z2 (ob_mk hx (ob_mk z1 (ob_mk z2 (ob_mk hm (in_pos he (by rw [nx]; exact hr)))))))))))))))))))))))), q1, q2, q3⟩
      by_cases h15 : xs (6 * n) &&& 63 = 15
      · obtain ⟨rx, rm, hx, hm, he, hi⟩ := s15 n _ _ _ _ _ _ _ _ _ _ _ _ _ _ d h (xs (6 * n + 1)) (xs (6 * n + 2))
        obtain ⟨n', r, hr, q1, q2, q3⟩ := ih (n + 1) _ _ _ _ _ _ _ _ _ _ _ _ _ _ _ (by omega) (by omega) hi
        exact ⟨n', r, in_neg hc2 (ob_mk z0 (in_neg h0 (in_neg h1 (in_neg h2 (in_neg h3 (in_neg h4 (in_neg h5 (in_neg h6 (in_neg h7 (in_neg h8 (in_neg h9 (in_neg h10 (in_neg h11 (in_neg h12 (in_neg h13 (in_neg h14 (in_pos h15 (ob_mk z1 (ob_mk z2 (ob_mk hx (ob_mk z1 (ob_mk z2 (ob_mk hm (in_pos he (by rw [nx]; exact hr))))))))))))))))))))))))), q1, q2, q3⟩
      by_cases h16 : xs (6 * n) &&& 63 = 16
      · obtain ⟨rx, rm, hx, hm, he, hi⟩ := s16 n _ _ _ _ _ _ _ _ _ _ _ _ _ _ d h (xs (6 * n + 1)) (xs (6 * n + 2)) (xs (6 * n + 3))
        obtain ⟨n', r, hr, q1, q2, q3⟩ := ih (n + 1) _ _ _ _ _ _ _ _ _ _ _ _ _ _ _ (by omega) (by omega) hi
        exact ⟨n', r, in_neg hc2 (ob_mk z0 (in_neg h0 (in_neg h1 (in_neg h2 (in_neg h3 (in_neg h4 (in_neg h5 (in_neg h6 (in_neg h7 (in_neg h8 (in_neg h9 (in_neg h10 (in_neg h11 (in_neg h12 (in_neg h13 (in_neg h14 (in_neg h15 (in_pos h16 (ob_mk z1 (ob_mk z2 (ob_mk z3 (ob_mk hx (ob_mk z1 (ob_mk z2 (ob_mk z3 (ob_mk hm (in_pos he (by rw [nx]; exact hr)))))))))))))))))))))))))))), q1, q2, q3⟩
      by_cases h17 : xs (6 * n) &&& 63 = 17
      · obtain ⟨rx, rm, hx, hm, he, hi⟩ := s17 n _ _ _ _ _ _ _ _ _ _ _ _ _ _ d h 
        obtain ⟨n', r, hr, q1, q2, q3⟩ := ih (n + 1) _ _ _ _ _ _ _ _ _ _ _ _ _ _ _ (by omega) (by omega) hi
        exact ⟨n', r, in_neg hc2 (ob_mk z0 (in_neg h0 (in_neg h1 (in_neg h2 (in_neg h3 (in_neg h4 (in_neg h5 (in_neg h6 (in_neg h7 (in_neg h8 (in_neg h9 (in_neg h10 (in_neg h11 (in_neg h12 (in_neg h13 (in_neg h14 (in_neg h15 (in_neg h16 (in_pos h17 (ob_mk hx (ob_mk hm (in_pos he (by rw [nx]; exact hr))))))))))))))))))))))), q1, q2, q3⟩
      by_cases h18 : xs (6 * n) &&& 63 = 18
      · obtain ⟨rx, rm, hx, hm, he, hi⟩ := s18 n _ _ _ _ _ _ _ _ _ _ _ _ _ _ d h (xs (6 * n + 1))
        have f := hI _ _ _ hi
        obtain ⟨n', r, hr, q1, q2, q3⟩ := ih (n + 1) _ _ _ _ _ _ _ _ _ _ _ _ _ _ _ (by omega) (by omega) hi
        exact ⟨n', r, in_neg hc2 (ob_mk z0 (in_neg h0 (in_neg h1 (in_neg h2 (in_neg h3 (in_neg h4 (in_neg h5 (in_neg h6 (in_neg h7 (in_neg h8 (in_neg h9 (in_neg h10 (in_neg h11 (in_neg h12 (in_neg h13 (in_neg h14 (in_neg h15 (in_neg h16 (in_neg h17 (in_pos h18 (ob_mk z1 (ob_mk hx (ob_mk (sc_ld f.1 f.2 hL (m := 6 * n) (j := 1) (by omega)) (ob_mk hm (in_pos he (by rw [nx]; exact hr)))))))))))))))))))))))))), q1, q2, q3⟩
      by_cases h19 : xs (6 * n) &&& 63 = 19
      · obtain ⟨rx, rm, hx, hm, he, hi⟩ := s19 n _ _ _ _ _ _ _ _ _ _ _ _ _ _ d h 
        obtain ⟨n', r, hr, q1, q2, q3⟩ := ih (n + 1) _ _ _ _ _ _ _ _ _ _ _ _ _ _ _ (by omega) (by omega) hi
        exact ⟨n', r, in_neg hc2 (ob_mk z0 (in_neg h0 (in_neg h1 (in_neg h2 (in_neg h3 (in_neg h4 (in_neg h5 (in_neg h6 (in_neg h7 (in_neg h8 (in_neg h9 (in_neg h10 (in_neg h11 (in_neg h12 (in_neg h13 (in_neg h14 (in_neg h15 (in_neg h16 (in_neg h17 (in_neg h18 (in_pos h19 (ob_mk hx (ob_mk hm (in_pos he (by rw [nx]; exact hr))))))))))))))))))))))))), q1, q2, q3⟩
      by_cases h20 : xs (6 * n) &&& 63 = 20
      · obtain ⟨rx, rm, hx, hm, he, hi⟩ := s20 n _ _ _ _ _ _ _ _ _ _ _ _ _ _ d h (xs (6 * n + 1))
        have f := hI _ _ _ hi
        obtain ⟨n', r, hr, q1, q2, q3⟩ := ih (n + 1) _ _ _ _ _ _ _ _ _ _ _ _ _ _ _ (by omega) (by omega) hi
        exact ⟨n', r, in_neg hc2 (ob_mk z0 (in_neg h0 (in_neg h1 (in_neg h2 (in_neg h3 (in_neg h4 (in_neg h5 (in_neg h6 (in_neg h7 (in_neg h8 (in_neg h9 (in_neg h10 (in_neg h11 (in_neg h12 (in_neg h13 (in_neg h14 (in_neg h15 (in_neg h16 (in_neg h17 (in_neg h18 (in_neg h19 (in_pos h20 (ob_mk z1 (ob_mk hx (ob_mk (sc_ld f.1 f.2 hL (m := 6 * n) (j := 1) (by omega)) (ob_mk hm (in_pos he (by rw [nx]; exact hr)))))))))))))))))))))))))))), q1, q2, q3⟩
      by_cases h21 : xs (6 * n) &&& 63 = 21
      · obtain ⟨rx, rm, hx, hm, he, hi⟩ := s21 n _ _ _ _ _ _ _ _ _ _ _ _ _ _ d h (xs (6 * n + 1))
        obtain ⟨n', r, hr, q1, q2, q3⟩ := ih (n + 1) _ _ _ _ _ _ _ _ _ _ _ _ _ _ _ (by omega) (by omega) hi
        exact ⟨n', r, in_neg hc2 (ob_mk z0 (in_neg h0 (in_neg h1 (in_neg h2 (in_neg h3 (in_neg h4 (in_neg h5 (in_neg h6 (in_neg h7 (in_neg h8 (in_neg h9 (in_neg h10 (in_neg h11 (in_neg h12 (in_neg h13 (in_neg h14 (in_neg h15 (in_neg h16 (in_neg h17 (in_neg h18 (in_neg h19 (in_neg h20 (in_pos h21 (ob_mk z1 (ob_mk hx (ob_mk z1 (ob_mk hm (in_pos he (by rw [nx]; exact hr))))))))))))))))))))))))))))), q1, q2, q3⟩
      by_cases h22 : xs (6 * n) &&& 63 = 22
      · obtain ⟨rx, rm, hx, hm, he, hi⟩ := s22 n _ _ _ _ _ _ _ _ _ _ _ _ _ _ d h 
        obtain ⟨n', r, hr, q1, q2, q3⟩ := ih (n + 1) _ _ _ _ _ _ _ _ _ _ _ _ _ _ _ (by omega) (by omega) hi
        exact ⟨n', r, in_neg hc2 (ob_mk z0 (in_neg h0 (in_neg h1 (in_neg h2 (in_neg h3 (in_neg h4 (in_neg h5 (in_neg h6 (in_neg h7 (in_neg h8 (in_neg h9 (in_neg h10 (in_neg h11 (in_neg h12 (in_neg h13 (in_neg h14 (in_neg h15 (in_neg h16 (in_neg h17 (in_neg h18 (in_neg h19 (in_neg h20 (in_neg h21 (in_pos h22 (ob_mk hx (ob_mk hm (in_pos he (by rw [nx]; exact hr)))))))))))))))))))))))))))), q1, q2, q3⟩
      by_cases h23 : xs (6 * n) &&& 63 = 23
      · obtain ⟨rx, rm, hx, hm, he, hi⟩ := s23 n _ _ _ _ _ _ _ _ _ _ _ _ _ _ d h (xs (6 * n + 1)) (xs (6 * n + 2)) (xs (6 * n + 3))
        obtain ⟨n', r, hr, q1, q2, q3⟩ := ih (n + 1) _ _ _ _ _ _ _ _ _ _ _ _ _ _ _ (by omega) (by omega) hi
        exact ⟨n', r, in_neg hc2 (ob_mk z0 (in_neg h0 (in_neg h1 (in_neg h2 (in_neg h3 (in_neg h4 (in_neg h5 (in_neg h6 (in_neg h7 (in_neg h8 (in_neg h9 (in_neg h10 (in_neg h11 (in_neg h12 (in_neg h13 (in_neg h14 (in_neg h15 (in_neg h16 (in_neg h17 (in_neg h18 (in_neg h19 (in_neg h20 (in_neg h21 (in_neg h22 (in_pos h23 (ob_mk z1 (ob_mk z2 (ob_mk z3 (ob_mk hx (ob_mk z1 (ob_mk z2 (ob_mk z3 (ob_mk hm (in_pos he (by rw [nx]; exact hr))))))))))))))))))))))))))))))))))), q1, q2, q3⟩
      by_cases h24 : xs (6 * n) &&& 63 = 24
      · obtain ⟨rx, rm, hx, hm, he, hi⟩ := s24 n _ _ _ _ _ _ _ _ _ _ _ _ _ _ d h (xs (6 * n + 1)) (xs (6 * n + 2)) (xs (6 * n + 3))
        have f := hI _ _ _ hi
        obtain ⟨n', r, hr, q1, q2, q3⟩ := ih (n + 1) _ _ _ _ _ _ _ _ _ _ _ _ _ _ _ (by omega) (by omega) hi
        exact ⟨n', r, in_neg hc2 (ob_mk z0 (in_neg h0 (in_neg h1 (in_neg h2 (in_neg h3 (in_neg h4 (in_neg h5 (in_neg h6 (in_neg h7 (in_neg h8 (in_neg h9 (in_neg h10 (in_neg h11 (in_neg h12 (in_neg h13 (in_neg h14 (in_neg h15 (in_neg h16 (in_neg h17 (in_neg h18 (in_neg h19 (in_neg h20 (in_neg h21 (in_neg h22 (in_neg h23 (in_pos h24 (ob_mk z1 (ob_mk z2 (ob_mk z3 (ob_mk hx (ob_mk (sc_ld f.1 f.2 hL (m := 6 * n) (j := 1) (by omega)) (ob_mk (sc_ld f.1 f.2 hL (m := 6 * n) (j := 2) (by omega)) (ob_mk (sc_ld f.1 f.2 hL (m := 6 * n) (j := 3) (by omega)) (ob_mk hm (in_pos he (by rw [nx]; exact hr)))))))))))))))))))))))))))))))))))), q1, q2, q3⟩
      by_cases h25 : xs (6 * n) &&& 63 = 25
      · obtain ⟨rx, rm, hx, hm, he, hi⟩ := s25 n _ _ _ _ _ _ _ _ _ _ _ _ _ _ d h (xs (6 * n + 1)) (xs (6 * n + 2)) (xs (6 * n + 3))
        have f := hI _ _ _ hi
        obtain ⟨n', r, hr, q1, q2, q3⟩ := ih (n + 1) _ _ _ _ _ _ _ _ _ _ _ _ _ _ _ (by omega) (by omega) hi
        exact ⟨n', r, in_neg hc2 (ob_mk z0 (in_neg h0 (in_neg h1 (in_neg h2 (in_neg h3 (in_neg h4 (in_neg h5 (in_neg h6 (in_neg h7 (in_neg h8 (in_neg h9 (in_neg h10 (in_neg h11 (in_neg h12 (in_neg h13 (in_neg h14 (in_neg h15 (in_neg h16 (in_neg h17 (in_neg h18 (in_neg h19 (in_neg h20 (in_neg h21 (in_neg h22 (in_neg h23 (in_neg h24 (in_pos h25 (ob_mk z1 (ob_mk z2 (ob_mk z3 (ob_mk hx (ob_mk (sc_ld f.1 f.2 hL (m := 6 * n) (j := 1) (by omega)) (ob_mk (sc_ld f.1 f.2 hL (m := 6 * n) (j := 2) (by omega)) (ob_mk (sc_ld f.1 f.2 hL (m := 6 * n) (j := 3) (by omega)) (ob_mk hm (in_pos he (by rw [nx]; exact hr))))))))))))))))))))))))))))))))))))), q1, q2, q3⟩
      by_cases h26 : xs (6 * n) &&& 63 = 26
      · obtain ⟨rx, rm, hx, hm, he, hi⟩ := s26 n _ _ _ _ _ _ _ _ _ _ _ _ _ _ d h (xs (6 * n + 1)) (xs (6 * n + 2))
        obtain ⟨n', r, hr, q1, q2, q3⟩ := ih (n + 1) _ _ _ _ _ _ _ _ _ _ _ _ _ _ _ (by omega) (by omega) hi
        exact ⟨n', r, in_neg hc2 (ob_mk z0 (in_neg h0 (in_neg h1 (in_neg h2 (in_neg h3 (in_neg h4 (in_neg h5 (in_neg h6 (in_neg h7 (in_neg h8 (in_neg h9 (in_neg h10 (in_neg h11 (in_neg h12 (in_neg h13 (in_neg h14 (in_neg h15 (in_neg h16 (in_neg h17 (in_neg h18 (in_neg h19 (in_neg h20 (in_neg h21 (in_neg h22 (in_neg h23 (in_neg h24 (in_neg h25 (in_pos h26 (ob_mk z1 (ob_mk z2 (ob_mk hx (ob_mk z1 (ob_mk z2 (ob_mk hm (in_pos he (by rw [nx]; exact hr)))))))))))))))))))))))))))))))))))), q1, q2, q3⟩
      by_cases h27 : xs (6 * n) &&& 63 = 27
      · obtain ⟨rx, rm, hx, hm, he, hi⟩ := s27 n _ _ _ _ _ _ _ _ _ _ _ _ _ _ d h (xs (6 * n + 1))
        obtain ⟨n', r, hr, q1, q2, q3⟩ := ih (n + 1) _ _ _ _ _ _ _ _ _ _ _ _ _ _ _ (by omega) (by omega) hi
        exact ⟨n', r, in_neg hc2 (ob_mk z0 (in_neg h0 (in_neg h1 (in_neg h2 (in_neg h3 (in_neg h4 (in_neg h5 (in_neg h6 (in_neg h7 (in_neg h8 (in_neg h9 (in_neg h10 (in_neg h11 (in_neg h12 (in_neg h13 (in_neg h14 (in_neg h15 (in_neg h16 (in_neg h17 (in_neg h18 (in_neg h19 (in_neg h20 (in_neg h21 (in_neg h22 (in_neg h23 (in_neg h24 (in_neg h25 (in_neg h26 (in_pos h27 (ob_mk z1 (ob_mk hx (ob_mk z1 (ob_mk hm (in_pos he (by rw [nx]; exact hr))))))))))))))))))))))))))))))))))), q1, q2, q3⟩
      by_cases h28 : xs (6 * n) &&& 63 = 28
      · obtain ⟨rx, rm, hx, hm, he, hi⟩ := s28 n _ _ _ _ _ _ _ _ _ _ _ _ _ _ d h (xs (6 * n + 1))
        obtain ⟨n', r, hr, q1, q2, q3⟩ := ih (n + 1) _ _ _ _ _ _ _ _ _ _ _ _ _ _ _ (by omega) (by omega) hi
        exact ⟨n', r, in_neg hc2 (ob_mk z0 (in_neg h0 (in_neg h1 (in_neg h2 (in_neg h3 (in_neg h4 (in_neg h5 (in_neg h6 (in_neg h7 (in_neg h8 (in_neg h9 (in_neg h10 (in_neg h11 (in_neg h12 (in_neg h13 (in_neg h14 (in_neg h15 (in_neg h16 (in_neg h17 (in_neg h18 (in_neg h19 (in_neg h20 (in_neg h21 (in_neg h22 (in_neg h23 (in_neg h24 (in_neg h25 (in_neg h26 (in_neg h27 (in_pos h28 (ob_mk z1 (ob_mk hx (ob_mk z1 (ob_mk hm (in_pos he (by rw [nx]; exact hr)))))))))))))))))))))))))))))))))))), q1, q2, q3⟩
      by_cases h29 : xs (6 * n) &&& 63 = 29
      · obtain ⟨rx, rm, hx, hm, he, hi⟩ := s29 n _ _ _ _ _ _ _ _ _ _ _ _ _ _ d h (xs (6 * n + 1)) (xs (6 * n + 2)) (xs (6 * n + 3)) (xs (6 * n + 4)) (xs (6 * n + 5))
        obtain ⟨n', r, hr, q1, q2, q3⟩ := ih (n + 1) _ _ _ _ _ _ _ _ _ _ _ _ _ _ _ (by omega) (by omega) hi
        exact ⟨n', r, in_neg hc2 (ob_mk z0 (in_neg h0 (in_neg h1 (in_neg h2 (in_neg h3 (in_neg h4 (in_neg h5 (in_neg h6 (in_neg h7 (in_neg h8 (in_neg h9 (in_neg h10 (in_neg h11 (in_neg h12 (in_neg h13 (in_neg h14 (in_neg h15 (in_neg h16 (in_neg h17 (in_neg h18 (in_neg h19 (in_neg h20 (in_neg h21 (in_neg h22 (in_neg h23 (in_neg h24 (in_neg h25 (in_neg h26 (in_neg h27 (in_neg h28 (in_pos h29 (ob_mk z1 (ob_mk z2 (ob_mk z3 (ob_mk z4 (ob_mk z5 (ob_mk hx (ob_mk z1 (ob_mk z2 (ob_mk z3 (ob_mk z4 (ob_mk z5 (ob_mk hm (in_pos he (by rw [nx]; exact hr))))))))))))))))))))))))))))))))))))))))))))), q1, q2, q3⟩
      by_cases h30 : xs (6 * n) &&& 63 = 30
      · obtain ⟨rx, rm, hx, hm, he, hi⟩ := s30 n _ _ _ _ _ _ _ _ _ _ _ _ _ _ d h (xs (6 * n + 1))
        obtain ⟨n', r, hr, q1, q2, q3⟩ := ih (n + 1) _ _ _ _ _ _ _ _ _ _ _ _ _ _ _ (by omega) (by omega) hi
        exact ⟨n', r, in_neg hc2 (ob_mk z0 (in_neg h0 (in_neg h1 (in_neg h2 (in_neg h3 (in_neg h4 (in_neg h5 (in_neg h6 (in_neg h7 (in_neg h8 (in_neg h9 (in_neg h10 (in_neg h11 (in_neg h12 (in_neg h13 (in_neg h14 (in_neg h15 (in_neg h16 (in_neg h17 (in_neg h18 (in_neg h19 (in_neg h20 (in_neg h21 (in_neg h22 (in_neg h23 (in_neg h24 (in_neg h25 (in_neg h26 (in_neg h27 (in_neg h28 (in_neg h29 (in_pos h30 (ob_mk z1 (ob_mk hx (ob_mk z1 (ob_mk hm (in_pos he (by rw [nx]; exact hr)))))))))))))))))))))))))))))))))))))), q1, q2, q3⟩
      by_cases h31 : xs (6 * n) &&& 63 = 31
      · obtain ⟨rx, rm, hx, hm, he, hi⟩ := s31 n _ _ _ _ _ _ _ _ _ _ _ _ _ _ d h (xs (6 * n + 1))
        have f := hI _ _ _ hi
        obtain ⟨n', r, hr, q1, q2, q3⟩ := ih (n + 1) _ _ _ _ _ _ _ _ _ _ _ _ _ _ _ (by omega) (by omega) hi
        exact ⟨n', r, in_neg hc2 (ob_mk z0 (in_neg h0 (in_neg h1 (in_neg h2 (in_neg h3 (in_neg h4 (in_neg h5 (in_neg h6 (in_neg h7 (in_neg h8 (in_neg h9 (in_neg h10 (in_neg h11 (in_neg h12 (in_neg h13 (in_neg h14 (in_neg h15 (in_neg h16 (in_neg h17 (in_neg h18 (in_neg h19 (in_neg h20 (in_neg h21 (in_neg h22 (in_neg h23 (in_neg h24 (in_neg h25 (in_neg h26 (in_neg h27 (in_neg h28 (in_neg h29 (in_neg h30 (in_pos h31 (ob_mk z1 (ob_mk hx (ob_mk (sc_ld f.1 f.2 hL (m := 6 * n) (j := 1) (by omega)) (ob_mk hm (in_pos he (by rw [nx]; exact hr))))))))))))))))))))))))))))))))))))))), q1, q2, q3⟩
      by_cases h32 : xs (6 * n) &&& 63 = 32
      · obtain ⟨rx, rm, hx, hm, he, hi⟩ := s32 n _ _ _ _ _ _ _ _ _ _ _ _ _ _ d h (xs (6 * n + 1))
        obtain ⟨n', r, hr, q1, q2, q3⟩ := ih (n + 1) _ _ _ _ _ _ _ _ _ _ _ _ _ _ _ (by omega) (by omega) hi
        exact ⟨n', r, in_neg hc2 (ob_mk z0 (in_neg h0 (in_neg h1 (in_neg h2 (in_neg h3 (in_neg h4 (in_neg h5 (in_neg h6 (in_neg h7 (in_neg h8 (in_neg h9 (in_neg h10 (in_neg h11 (in_neg h12 (in_neg h13 (in_neg h14 (in_neg h15 (in_neg h16 (in_neg h17 (in_neg h18 (in_neg h19 (in_neg h20 (in_neg h21 (in_neg h22 (in_neg h23 (in_neg h24 (in_neg h25 (in_neg h26 (in_neg h27 (in_neg h28 (in_neg h29 (in_neg h30 (in_neg h31 (in_pos h32 (ob_mk z1 (ob_mk hx (ob_mk z1 (ob_mk hm (in_pos he (by rw [nx]; exact hr)))))))))))))))))))))))))))))))))))))))), q1, q2, q3⟩
      obtain ⟨n', r, hr, q1, q2, q3⟩ := ih (n + 1) _ _ _ _ _ _ _ _ _ _ _ _ _ _ _ (by omega) (by omega) (hm _ _ _ h)
      exact ⟨n', r, in_neg hc2 (ob_mk z0 (in_neg h0 (in_neg h1 (in_neg h2 (in_neg h3 (in_neg h4 (in_neg h5 (in_neg h6 (in_neg h7 (in_neg h8 (in_neg h9 (in_neg h10 (in_neg h11 (in_neg h12 (in_neg h13 (in_neg h14 (in_neg h15 (in_neg h16 (in_neg h17 (in_neg h18 (in_neg h19 (in_neg h20 (in_neg h21 (in_neg h22 (in_neg h23 (in_neg h24 (in_neg h25 (in_neg h26 (in_neg h27 (in_neg h28 (in_neg h29 (in_neg h30 (in_neg h31 (in_neg h32 (by rw [nx]; exact hr))))))))))))))))))))))))))))))))))), q1, q2, q3⟩
