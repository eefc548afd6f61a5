/-! ===== the tape: what both sides hold of it, and feed ===== -/
theorem i8_all : ∀ n, n < 256 → (Int8.ofBitVec (BitVec.ofNat 8 n)).toInt32 = bI n := by decide +kernel
theorem i8_bI (b : Int8) : ∃ n, n < 256 ∧ b.toInt32 = bI n := by
  refine ⟨b.toBitVec.toNat, b.toBitVec.isLt, ?_⟩
  rw [← i8_all _ b.toBitVec.isLt, BitVec.ofNat_toNat, BitVec.setWidth_eq]
  rfl
theorem byt_bI (x s : Int32) : ∃ n, n < 256 ∧ byt x s = bI n := by
  unfold byt
  exact i8_bI _
/-- the bytes below l are bytes -/
def Byts (f : Nat → Int32) (l : Nat) : Prop := ∀ j, j < l → ∃ n, n < 256 ∧ f j = bI n
theorem byts_up {f : Nat → Int32} {l : Nat} {x s : Int32} (h : Byts f l) : Byts (upd f l (byt x s)) (l + 1) := fun j hj => by
  unfold upd
  split
  · exact byt_bI x s
  · exact h j (by omega)
theorem byts_4 {f : Nat → Int32} {l : Nat} {x : Int32} (h : Byts f l) : Byts (put4 f l x) (l + 4) := byts_up (byts_up (byts_up (byts_up h)))
theorem byts_20 {f : Nat → Int32} {l : Nat} {a b c d e : Int32} (h : Byts f l) : Byts (put20 f l a b c d e) (l + 20) := byts_4 (byts_4 (byts_4 (byts_4 (byts_4 h))))
theorem up_al {f g : Nat → Int32} {l : Nat} {v : Int32} (h : ∀ j, j < l → f j = g j) : ∀ j, j < l + 1 → upd f l v j = upd g l v j := fun j hj => by
  unfold upd
  split
  · rfl
  · exact h j (by omega)
theorem put4_al {f g : Nat → Int32} {l : Nat} {x : Int32} (h : ∀ j, j < l → f j = g j) : ∀ j, j < l + 4 → put4 f l x j = put4 g l x j := up_al (up_al (up_al (up_al h)))
theorem put20_al {f g : Nat → Int32} {l : Nat} {a b c d e : Int32} (h : ∀ j, j < l → f j = g j) : ∀ j, j < l + 20 → put20 f l a b c d e j = put20 g l a b c d e j := put4_al (put4_al (put4_al (put4_al (put4_al h))))
/-- the tape of both sides -/
def TP (c11 : Cl) (B : Nat) (c12 : Cl) (B2 : Nat) : Prop := ∃ l, l ≤ 400 ∧ cI c11 1 B = nI l ∧ cI c12 1 B2 = nI l ∧ Byts (cA c11 0 B) l ∧ ∀ j, j < l → cA c11 0 B j = cA c12 0 B2 j
/-- in the form that house and rule ask for -/
theorem TP_u {c11 c12 : Cl} {B B2 : Nat} (h : TP c11 B c12 B2) : ∃ (l : Nat) (u : Nat → Nat), l ≤ 400 ∧ (∀ j, u j < 256) ∧ cI c11 1 B = nI l ∧ cI c12 1 B2 = nI l ∧ (∀ j, j < l → cA c11 0 B j = bI (u j)) ∧ ∀ j, j < l → cA c12 0 B2 j = bI (u j) := by
  obtain ⟨l, a, b, c, y, e⟩ := h
  have hu : ∀ j, ∃ n, n < 256 ∧ (j < l → cA c11 0 B j = bI n) := fun j => by
    by_cases q : j < l
    · obtain ⟨n, p, r⟩ := y j q
      exact ⟨n, p, fun _ => r⟩
    · exact ⟨0, by decide, fun z => absurd z q⟩
  exact ⟨l, fun j => (hu j).choose, a, fun j => (hu j).choose_spec.1, b, c, fun j hj => (hu j).choose_spec.2 hj, fun j hj => by rw [← e j hj]; exact (hu j).choose_spec.2 hj⟩
theorem TP_c {c11 c12 c11' c12' : Cl} {B B2 : Nat} (h : TP c11 B c12 B2) (a1 : cI c11' 1 B = cI c11 1 B) (a2 : cA c11' 0 B = cA c11 0 B) (b1 : cI c12' 1 B2 = cI c12 1 B2) (b2 : cA c12' 0 B2 = cA c12 0 B2) : TP c11' B c12' B2 := by
  unfold TP; rw [a1, a2, b1, b2]; exact h
theorem TP_0 {c11 c12 : Cl} {B B2 : Nat} (a : cI c11 1 B = 0) (b : cI c12 1 B2 = 0) : TP c11 B c12 B2 := ⟨0, by decide, a, b, fun j hj => absurd hj (Nat.not_lt_zero j), fun j hj => absurd hj (Nat.not_lt_zero j)⟩
theorem TP_cut {c11 c12 : Cl} {B B2 l n : Nat} (h : TP c11 B c12 B2) (hl : cI c11 1 B = nI l) (l4 : l ≤ 400) (hn : n ≤ l) : TP (sI c11 1 B (nI n)) B (sI c12 1 B2 (nI n)) B2 := by
  obtain ⟨m, a, b, c, y, e⟩ := h
  have hm : m = l := (nI_eq (by omega) (by omega)).mp (b.symm.trans hl)
  exact ⟨n, by omega, by rw [cI_sI, if_pos ⟨rfl, rfl⟩], by rw [cI_sI, if_pos ⟨rfl, rfl⟩], fun j hj => y j (by omega), fun j hj => e j (by omega)⟩
theorem q_feed {c11 c12 : Cl} {B B2 : Nat} {p1 p2 p3 p4 p5 : Int32} (h : TP c11 B c12 B2) : ∃ rx rm, F_123 c11 B p1 p2 p3 p4 p5 = some rx ∧ F_174 c12 B2 p1 p2 p3 p4 p5 = some rm ∧ rx.1 = rm.1 ∧ TP rx.2 B rm.2 B2 ∧ Kp [0, 1] c11 rx.2 ∧ Kp [0, 1] c12 rm.2 := by
  obtain ⟨l, a, b, c, y, e⟩ := id h
  refine ⟨_, _, f_123 b a, f_174 c a, ?_⟩
  by_cases hc : l + 20 ≤ 400
  · rw [if_pos hc, if_pos hc]
    refine ⟨rfl, ⟨l + 20, hc, by rw [cI_sI, if_pos ⟨rfl, rfl⟩], by rw [cI_sI, if_pos ⟨rfl, rfl⟩], ?_, ?_⟩, kp_tr (kp_A (by decide)) (kp_I (by decide)), kp_tr (kp_A (by decide)) (kp_I (by decide))⟩
    · rw [cA_sI, cA_sA, if_pos ⟨rfl, rfl⟩]; exact byts_20 y
    · rw [cA_sI, cA_sA, if_pos ⟨rfl, rfl⟩, cA_sI, cA_sA, if_pos ⟨rfl, rfl⟩]; exact put20_al e
  · rw [if_neg hc, if_neg hc]
    exact ⟨rfl, h, fun k _ => ⟨rfl, rfl, rfl, rfl, rfl, rfl⟩, fun k _ => ⟨rfl, rfl, rfl, rfl, rfl, rfl⟩⟩
theorem q_end2 {c11 c12 : Cl} {B B2 : Nat} {p : Int32} (h : TP c11 B c12 B2) : ∃ rx rm, F_124 c11 B p = some rx ∧ F_175 c12 B2 p = some rm ∧ rx.1 = rm.1 ∧ TP rx.2 B rm.2 B2 ∧ Kp [0, 1] c11 rx.2 ∧ Kp [0, 1] c12 rm.2 := by
  obtain ⟨l, a, b, c, y, e⟩ := id h
  obtain ⟨rx, rm, h1, h2, h3, h4⟩ := q_end (p := p) b c a
  refine ⟨rx, rm, h1, h2, h3, ?_⟩
  rcases h4 with ⟨z1, z2⟩ | ⟨n, hn, z1, z2⟩
  · rw [z1, z2]; exact ⟨h, fun k _ => ⟨rfl, rfl, rfl, rfl, rfl, rfl⟩, fun k _ => ⟨rfl, rfl, rfl, rfl, rfl, rfl⟩⟩
  · rw [z1, z2]; exact ⟨TP_cut h b a hn, kp_I (by decide), kp_I (by decide)⟩
