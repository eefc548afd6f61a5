/-! ===== theft: which leads there are so far, by the reference ===== -/
def lkq (S : Nat → Int32) (D : Nat) (a : Nat → Nat) (h r : Nat) : Prop := r = a h ∨ ¬ bit1 (bs S (nI (a h)) D) (nI r) = 0
/-- one or two go, and nobody feels it -/
def LQ (S : Nat → Int32) (R D H Q : Nat) (a q : Nat → Nat) : Prop := (∀ h, h < H → ¬ lv S h = 0 → lkq S D a h (q h)) ∧ gn S H a q ≠ 0 ∧ gn S H a q ≤ 2 ∧ se S H Q q = se S H Q a ∧ hlb S H q R = true
def agr (S : Nat → Int32) (H : Nat) (q q' : Nat → Nat) : Prop := ∀ h, h < H → ¬ lv S h = 0 → q h = q' h
/-- the first that goes lies ahead of a place -/
def V1 (S : Nat → Int32) (H : Nat) (a : Nat → Nat) (h1 r1 : Nat) (q : Nat → Nat) : Prop := ∃ i, i < H ∧ ¬ lv S i = 0 ∧ q i ≠ a i ∧ (∀ j, j < i → ¬ lv S j = 0 → q j = a j) ∧ (i < h1 ∨ (i = h1 ∧ q i < r1))
def V2 (S : Nat → Int32) (H : Nat) (a : Nat → Nat) (h1 r1 h2 r2 : Nat) (q : Nat → Nat) : Prop := V1 S H a h1 r1 q ∨ ((∀ j, j < h1 → ¬ lv S j = 0 → q j = a j) ∧ q h1 = r1 ∧ ((∀ j, h1 < j → j < H → ¬ lv S j = 0 → q j = a j) ∨ ∃ i, h1 < i ∧ i < H ∧ ¬ lv S i = 0 ∧ q i ≠ a i ∧ (∀ j, h1 < j → j < i → ¬ lv S j = 0 → q j = a j) ∧ (i < h2 ∨ (i = h2 ∧ q i < r2))))
section Leads2
variable {c1 c8 : Cl} {st B2 : Nat} {S : Nat → Int32} {R D H Q M L E : Nat} {K : Nat → Nat} {a : Nat → Nat}
theorem first_d {q : Nat → Nat} (lo : Nat) : ∀ n, (∀ j, lo ≤ j → j < n → ¬ lv S j = 0 → q j = a j) ∨ ∃ i, lo ≤ i ∧ i < n ∧ ¬ lv S i = 0 ∧ q i ≠ a i ∧ ∀ j, lo ≤ j → j < i → ¬ lv S j = 0 → q j = a j
  | 0 => Or.inl fun j _ h => absurd h (Nat.not_lt_zero _)
  | n + 1 => by
    rcases first_d (q := q) lo n with h | ⟨i, h1, h2, h3, h4, h5⟩
    · by_cases w : lo ≤ n ∧ ¬ lv S n = 0 ∧ q n ≠ a n
      · exact Or.inr ⟨n, w.1, Nat.lt_succ_self _, w.2.1, w.2.2, fun j j1 j2 => h j j1 j2⟩
      · refine Or.inl fun j j1 j2 j3 => ?_
        by_cases z : j = n
        · subst z
          exact Classical.byContradiction fun y => w ⟨j1, j3, y⟩
        · exact h j j1 (by omega) j3
    · exact Or.inr ⟨i, h1, by omega, h3, h4, h5⟩
/-- of three unlike ones three go -/
theorem gn_two {q : Nat → Nat} {h1 h2 : Nat} (l1 : h1 < H) (v1 : ¬ lv S h1 = 0) (n1 : q h1 ≠ a h1) (l2 : h2 < H) (v2 : ¬ lv S h2 = 0) (n2 : q h2 ≠ a h2) (h12 : h1 ≠ h2) (hg : gn S H a q ≤ 2) : ∀ j, j < H → ¬ lv S j = 0 → j ≠ h1 → j ≠ h2 → q j = a j := by
  intro j hj hl j1 j2
  have m1 : mv q h1 (a h1) h1 = a h1 := if_pos rfl
  have m2 : mv q h1 (a h1) h2 = q h2 := if_neg (Ne.symm h12)
  have e1 := gn_mv (q := mv q h1 (a h1)) (r := q h1) l1 v1 m1 n1
  have e2 := gn_mv (a := a) (q := mv (mv q h1 (a h1)) h2 (a h2)) (r := q h2) l2 v2 (show mv (mv q h1 (a h1)) h2 (a h2) h2 = a h2 from if_pos rfl) n2
  have s1 : mv (mv q h1 (a h1)) h1 (q h1) = q := by
    funext k; unfold mv
    by_cases z : k = h1
    · rw [if_pos z, z]
    · rw [if_neg z, if_neg z]
  have s2 : mv (mv (mv q h1 (a h1)) h2 (a h2)) h2 (q h2) = mv q h1 (a h1) := by
    funext k
    by_cases z : k = h2
    · rw [z, m2]; exact if_pos rfl
    · show (if k = h2 then _ else mv (mv q h1 (a h1)) h2 (a h2) k) = _
      rw [if_neg z]; exact if_neg z
  rw [s1] at e1
  rw [s2] at e2
  have z : gn S H a (mv (mv q h1 (a h1)) h2 (a h2)) = 0 := by omega
  have := sn_0 (f := fun h => if lv S h = 0 then 0 else if mv (mv q h1 (a h1)) h2 (a h2) h = a h then 0 else 1) (n := H) z hj
  rw [if_neg hl] at this
  have y : mv (mv q h1 (a h1)) h2 (a h2) j = q j := by
    show (if j = h2 then _ else mv q h1 (a h1) j) = _
    rw [if_neg j2]; exact if_neg j1
  rw [y] at this
  exact Classical.byContradiction fun w => by rw [if_neg w] at this; exact absurd this (by decide)
theorem v_single {h1 r1 : Nat} {q : Nat → Nat} (l1 : h1 < H) (w1 : ¬ lv S h1 = 0) : (V1 S H a h1 r1 q ∨ agr S H q (mv a h1 r1)) ↔ V2 S H a h1 r1 (h1 + 1) 0 q := by
  constructor
  · rintro (h | h)
    · exact Or.inl h
    · refine Or.inr ⟨fun j hj hl => ?_, ?_, Or.inl fun j j1 j2 j3 => ?_⟩
      · rw [h j (by omega) hl]; exact if_neg (by omega)
      · rw [h h1 l1 w1]; exact if_pos rfl
      · rw [h j j2 j3]; exact if_neg (by omega)
  · rintro (h | ⟨h, e, h' | ⟨i, i1, i2, i3, i4, i5, i6 | i6⟩⟩)
    · exact Or.inl h
    · refine Or.inr fun j hj hl => ?_
      show q j = if j = h1 then r1 else a j
      by_cases z : j = h1
      · rw [if_pos z, z, e]
      · rw [if_neg z]
        by_cases y : j < h1
        · exact h j y hl
        · exact h' j (by omega) hj hl
    · omega
    · omega
theorem v_pair {h1 r1 h2 r2 : Nat} {q : Nat → Nat} (l1 : h1 < H) (w1 : ¬ lv S h1 = 0) (n1 : r1 ≠ a h1) (h12 : h1 < h2) (l2 : h2 < H) (w2 : ¬ lv S h2 = 0) (n2 : r2 ≠ a h2) (hq : LQ S R D H Q a q) : (V2 S H a h1 r1 h2 r2 q ∨ agr S H q (mv (mv a h1 r1) h2 r2)) ↔ V2 S H a h1 r1 h2 (r2 + 1) q := by
  constructor
  · rintro ((h | ⟨h, e, h' | ⟨i, i1, i2, i3, i4, i5, i6⟩⟩) | h)
    · exact Or.inl h
    · exact Or.inr ⟨h, e, Or.inl h'⟩
    · exact Or.inr ⟨h, e, Or.inr ⟨i, i1, i2, i3, i4, i5, by omega⟩⟩
    · have ev : ∀ j, j < H → ¬ lv S j = 0 → j ≠ h1 → j ≠ h2 → q j = a j := fun j hj hl j1 j2 => by
        rw [h j hj hl]
        show (if j = h2 then r2 else mv a h1 r1 j) = _
        rw [if_neg j2]; exact if_neg j1
      have e1 : q h1 = r1 := by
        rw [h h1 l1 w1]
        show (if h1 = h2 then r2 else mv a h1 r1 h1) = _
        rw [if_neg (by omega)]; exact if_pos rfl
      have e2 : q h2 = r2 := by rw [h h2 l2 w2]; exact if_pos rfl
      exact Or.inr ⟨fun j hj hl => ev j (by omega) hl (by omega) (by omega), e1, Or.inr ⟨h2, h12, l2, w2, by rw [e2]; exact n2, fun j j1 j2 j3 => ev j (by omega) j3 (by omega) (by omega), Or.inr ⟨rfl, by omega⟩⟩⟩
  · rintro (h | ⟨h, e, h' | ⟨i, i1, i2, i3, i4, i5, i6⟩⟩)
    · exact Or.inl (Or.inl h)
    · exact Or.inl (Or.inr ⟨h, e, Or.inl h'⟩)
    · by_cases y : i < h2 ∨ (i = h2 ∧ q i < r2)
      · exact Or.inl (Or.inr ⟨h, e, Or.inr ⟨i, i1, i2, i3, i4, i5, y⟩⟩)
      · have z : i = h2 := by omega
        subst z
        have z2 : q i = r2 := by omega
        have ev := gn_two l1 w1 (by rw [e]; exact n1) l2 w2 i4 (by omega) hq.2.2.1
        refine Or.inr fun j hj hl => ?_
        show q j = if j = i then r2 else mv a h1 r1 j
        by_cases x : j = i
        · rw [if_pos x, x, z2]
        · rw [if_neg x]
          show q j = if j = h1 then r1 else a j
          by_cases x2 : j = h1
          · rw [if_pos x2, x2, e]
          · rw [if_neg x2]; exact ev j hj hl x2 x
theorem v2_skip {h1 r1 h2 r2 : Nat} {q : Nat → Nat} (hq : LQ S R D H Q a q) (n : r2 = a h2 ∨ bit1 (bs S (nI (a h2)) D) (nI r2) = 0) : V2 S H a h1 r1 h2 r2 q ↔ V2 S H a h1 r1 h2 (r2 + 1) q := by
  constructor
  · rintro (h | ⟨h, e, h' | ⟨i, i1, i2, i3, i4, i5, i6⟩⟩)
    · exact Or.inl h
    · exact Or.inr ⟨h, e, Or.inl h'⟩
    · exact Or.inr ⟨h, e, Or.inr ⟨i, i1, i2, i3, i4, i5, by omega⟩⟩
  · rintro (h | ⟨h, e, h' | ⟨i, i1, i2, i3, i4, i5, i6⟩⟩)
    · exact Or.inl h
    · exact Or.inr ⟨h, e, Or.inl h'⟩
    · refine Or.inr ⟨h, e, Or.inr ⟨i, i1, i2, i3, i4, i5, ?_⟩⟩
      by_cases y : i = h2 ∧ q i = r2
      · exfalso
        obtain ⟨y1, y2⟩ := y
        subst y1
        rcases n with n | n
        · exact i4 (by rw [y2, n])
        · rcases hq.1 i i2 i3 with z | z
          · exact i4 z
          · rw [y2] at z; exact z n
      · omega
theorem v2_row {h1 r1 h2 : Nat} {q : Nat → Nat} (hq : Qok S R H q) : V2 S H a h1 r1 h2 R q ↔ V2 S H a h1 r1 (h2 + 1) 0 q := by
  constructor
  · rintro (h | ⟨h, e, h' | ⟨i, i1, i2, i3, i4, i5, i6⟩⟩)
    · exact Or.inl h
    · exact Or.inr ⟨h, e, Or.inl h'⟩
    · exact Or.inr ⟨h, e, Or.inr ⟨i, i1, i2, i3, i4, i5, by omega⟩⟩
  · rintro (h | ⟨h, e, h' | ⟨i, i1, i2, i3, i4, i5, i6⟩⟩)
    · exact Or.inl h
    · exact Or.inr ⟨h, e, Or.inl h'⟩
    · have := hq i i2 i3
      exact Or.inr ⟨h, e, Or.inr ⟨i, i1, i2, i3, i4, i5, by omega⟩⟩
theorem v2_dead {h1 r1 h2 : Nat} {q : Nat → Nat} (hl : lv S h2 = 0) : V2 S H a h1 r1 h2 0 q ↔ V2 S H a h1 r1 (h2 + 1) 0 q := by
  constructor
  · rintro (h | ⟨h, e, h' | ⟨i, i1, i2, i3, i4, i5, i6⟩⟩)
    · exact Or.inl h
    · exact Or.inr ⟨h, e, Or.inl h'⟩
    · exact Or.inr ⟨h, e, Or.inr ⟨i, i1, i2, i3, i4, i5, by omega⟩⟩
  · rintro (h | ⟨h, e, h' | ⟨i, i1, i2, i3, i4, i5, i6⟩⟩)
    · exact Or.inl h
    · exact Or.inr ⟨h, e, Or.inl h'⟩
    · refine Or.inr ⟨h, e, Or.inr ⟨i, i1, i2, i3, i4, i5, ?_⟩⟩
      have : i ≠ h2 := fun z => i3 (by rw [z]; exact hl)
      omega
theorem v2_end {h1 r1 : Nat} {q : Nat → Nat} (l1 : h1 < H) (w1 : ¬ lv S h1 = 0) (n1 : r1 ≠ a h1) : V2 S H a h1 r1 H 0 q ↔ V1 S H a h1 (r1 + 1) q := by
  constructor
  · rintro (⟨i, i1, i2, i3, i4, i5⟩ | ⟨h, e, -⟩)
    · exact ⟨i, i1, i2, i3, i4, by omega⟩
    · exact ⟨h1, l1, w1, by rw [e]; exact n1, h, Or.inr ⟨rfl, by omega⟩⟩
  · rintro ⟨i, i1, i2, i3, i4, i5⟩
    by_cases y : i < h1 ∨ (i = h1 ∧ q i < r1)
    · exact Or.inl ⟨i, i1, i2, i3, i4, y⟩
    · have z : i = h1 := by omega
      subst z
      refine Or.inr ⟨i4, by omega, ?_⟩
      rcases first_d (S := S) (a := a) (q := q) (i + 1) H with h | ⟨k, k1, k2, k3, k4, k5⟩
      · exact Or.inl fun j j1 j2 j3 => h j (by omega) j2 j3
      · exact Or.inr ⟨k, by omega, k2, k3, k4, fun j j1 j2 j3 => k5 j (by omega) j2 j3, Or.inl k2⟩
theorem v1_skip {h1 r1 : Nat} {q : Nat → Nat} (hq : LQ S R D H Q a q) (n : r1 = a h1 ∨ bit1 (bs S (nI (a h1)) D) (nI r1) = 0) : V1 S H a h1 r1 q ↔ V1 S H a h1 (r1 + 1) q := by
  constructor
  · rintro ⟨i, i1, i2, i3, i4, i5⟩
    exact ⟨i, i1, i2, i3, i4, by omega⟩
  · rintro ⟨i, i1, i2, i3, i4, i5⟩
    refine ⟨i, i1, i2, i3, i4, ?_⟩
    by_cases y : i = h1 ∧ q i = r1
    · exfalso
      obtain ⟨y1, y2⟩ := y
      subst y1
      rcases n with n | n
      · exact i3 (by rw [y2, n])
      · rcases hq.1 i i1 i2 with z | z
        · exact i3 z
        · rw [y2] at z; exact z n
    · omega
theorem v1_row {h1 : Nat} {q : Nat → Nat} (hq : Qok S R H q) : V1 S H a h1 R q ↔ V1 S H a (h1 + 1) 0 q := by
  constructor
  · rintro ⟨i, i1, i2, i3, i4, i5⟩
    exact ⟨i, i1, i2, i3, i4, by omega⟩
  · rintro ⟨i, i1, i2, i3, i4, i5⟩
    have := hq i i1 i2
    exact ⟨i, i1, i2, i3, i4, by omega⟩
theorem v1_dead {h1 : Nat} {q : Nat → Nat} (hl : lv S h1 = 0) : V1 S H a h1 0 q ↔ V1 S H a (h1 + 1) 0 q := by
  constructor
  · rintro ⟨i, i1, i2, i3, i4, i5⟩
    exact ⟨i, i1, i2, i3, i4, by omega⟩
  · rintro ⟨i, i1, i2, i3, i4, i5⟩
    have : i ≠ h1 := fun z => i2 (by rw [z]; exact hl)
    exact ⟨i, i1, i2, i3, i4, by omega⟩
theorem v1_all {q : Nat → Nat} (hq : LQ S R D H Q a q) : V1 S H a H 0 q := by
  rcases first_d (S := S) (a := a) (q := q) 0 H with h | ⟨k, k1, k2, k3, k4, k5⟩
  · exfalso
    refine hq.2.1 (sn_z fun i hi => ?_)
    by_cases w : lv S i = 0
    · rw [if_pos w]
    · rw [if_neg w, if_pos (h i (Nat.zero_le _) hi w)]
  · exact ⟨k, k2, k3, k4, fun j j1 j2 => k5 j (Nat.zero_le _) j1 j2, Or.inl k2⟩
theorem v1_none {q : Nat → Nat} : ¬ V1 S H a 0 0 q := fun ⟨i, _, _, _, _, h⟩ => by omega
/-- codes of unlike situations are unlike -/
theorem kr_inj (hR : 0 < R) (r6 : R ≤ 6) (h6 : H ≤ 6) {q q' : Nat → Nat} (hq : Qok S R H q) (hq' : Qok S R H q') (e : kr S H q = kr S H q') : agr S H q q' := fun h hh hl => by
  have := ph_inj hR r6 h6 (kc_lt hq) (kc_lt hq') (by rw [ph_kc hR hq, ph_kc hR hq']; exact e)
  rw [← qs_kc hR hq hh hl, this, qs_kc hR hq' hh hl]
theorem kr_mv (hR : 0 < R) (h6 : H ≤ 6) {q : Nat → Nat} {h r : Nat} (hq : Qok S R H q) (hr : r < R) (hh : h < H) (hl : ¬ lv S h = 0) : nI (kr S H q) + nI (6 ^ (5 - h)) * (nI r - nI (q h)) = nI (kr S H (mv q h r)) := by
  have e := tg_r (S := S) hR h6 (s := kc S R H q) hr hh hl
  rw [tg_ph hR hr, ph_kc hR hq, qs_kc hR hq hh hl] at e
  rw [e, kr_cg]
  intro k hk hl'
  unfold mv
  by_cases z : k = h
  · rw [if_pos z, if_pos z]
  · rw [if_neg z, if_neg z]; exact qs_kc hR hq hk hl'
theorem LQ_cg {q q' : Nat → Nat} (h : agr S H q q') : LQ S R D H Q a q ↔ LQ S R D H Q a q' := by
  unfold LQ
  rw [gn_cg h, se_cg h, hlb_cg h]
  constructor
  · rintro ⟨x, y⟩; exact ⟨fun k hk hl => by rw [← h k hk hl]; exact x k hk hl, y⟩
  · rintro ⟨x, y⟩; exact ⟨fun k hk hl => by rw [h k hk hl]; exact x k hk hl, y⟩
/-- the leads are just those so far -/
def Mem (S : Nat → Int32) (R D H Q : Nat) (a : Nat → Nat) (B2 : Nat) (V : (Nat → Nat) → Prop) (n : Nat) (c : Cl) : Prop := ∃ g, LdS c B2 n g ∧ ∀ x, (∃ j, j < n ∧ g j = x) ↔ ∃ q, Qok S R H q ∧ LQ S R D H Q a q ∧ V q ∧ x = kr S H q
theorem mem_cg {V V' : (Nat → Nat) → Prop} {n : Nat} {c : Cl} (h : ∀ q, Qok S R H q → LQ S R D H Q a q → (V q ↔ V' q)) (hm : Mem S R D H Q a B2 V n c) : Mem S R D H Q a B2 V' n c := by
  obtain ⟨g, g1, g2⟩ := hm
  refine ⟨g, g1, fun x => (g2 x).trans ⟨?_, ?_⟩⟩
  · rintro ⟨q, q1, q2, q3, q4⟩; exact ⟨q, q1, q2, (h q q1 q2).mp q3, q4⟩
  · rintro ⟨q, q1, q2, q3, q4⟩; exact ⟨q, q1, q2, (h q q1 q2).mpr q3, q4⟩
theorem mem_k {V : (Nat → Nat) → Prop} {n : Nat} {c c' : Cl} {Ks : List Nat} (k : Kp Ks c c') (h8 : 38 ∉ Ks) (h9 : 39 ∉ Ks) (hm : Mem S R D H Q a B2 V n c) : Mem S R D H Q a B2 V n c' := by
  obtain ⟨g, ⟨g1, g3, g4⟩, g2⟩ := hm
  exact ⟨g, ⟨by rw [(k 39 h9).1]; exact g1, fun j hj => by rw [(k 38 h8).2.2.2.1]; exact g3 j hj, g4⟩, g2⟩
/-- a lead more, if nobody feels it -/
theorem push_ok {V : (Nat → Nat) → Prop} {n : Nat} {cz : Cl} {qn : Nat → Nat} {v : Int32} (hS : SR c1 c8 st S R D H Q M L E K) (hR0 : 0 < R) (eS : cA cz 20 B2 = S) (hq : Qok S R H qn) (hL : (∀ h, h < H → ¬ lv S h = 0 → lkq S D a h (qn h)) ∧ gn S H a qn ≠ 0 ∧ gn S H a qn ≤ 2) (h24 : ∀ h, h < H → ¬ lv S h = 0 → cA cz 24 B2 h = nI (qn h)) (h33 : ∀ s, s < Q → cA cz 33 B2 s = nI (lb S H a s)) (hv : v = nI (kr S H qn)) (hn : n < 420) (hV : ∀ q, agr S H q qn → ¬ V q) (hm : Mem S R D H Q a B2 V n cz) : ∃ r, F_276 cz B2 = some r ∧ ((r = 0 ∧ Mem S R D H Q a B2 (fun q => V q ∨ agr S H q qn) n cz) ∨ (¬ r = 0 ∧ Rn (F_279 cz B2 v) (fun c => Kp [38, 39] cz c ∧ Mem S R D H Q a B2 (fun q => V q ∨ agr S H q qn) (n + 1) c))) := by
  obtain ⟨⟨-, -, r6⟩, -, ⟨-, -, h6⟩, -⟩ := id hS.1.1
  have f6 := f_276 (a := a) hS eS hq h24 h33
  refine ⟨_, f6, ?_⟩
  by_cases w : se S H Q qn = se S H Q a ∧ hlb S H qn R = true
  · rw [if_pos w]
    refine Or.inr ⟨by decide, ?_⟩
    obtain ⟨g, g1, g2⟩ := id hm
    rw [hv]
    refine rn_m (f_279 (kr_lt hq r6) hn g1 (fun j hj z => ?_)) (fun c ⟨k, g', g3, g4⟩ => ⟨k, g', g3, fun x => (g4 x).trans ⟨?_, ?_⟩⟩)
    · obtain ⟨q, q1, q2, q3, q4⟩ := (g2 (kr S H qn)).mp ⟨j, hj, z⟩
      exact hV q (kr_inj hR0 r6 h6 q1 hq q4.symm) q3
    · rintro (e | e)
      · exact ⟨qn, hq, ⟨hL.1, hL.2.1, hL.2.2, w.1, w.2⟩, Or.inr fun _ _ _ => rfl, e⟩
      · obtain ⟨q, q1, q2, q3, q4⟩ := (g2 x).mp e
        exact ⟨q, q1, q2, Or.inl q3, q4⟩
    · rintro ⟨q, q1, q2, q3 | q3, q4⟩
      · exact Or.inr ((g2 x).mpr ⟨q, q1, q2, q3, q4⟩)
      · exact Or.inl (q4.trans (kr_cg q3))
  · rw [if_neg w]
    refine Or.inl ⟨rfl, mem_cg (fun q q1 q2 => ⟨Or.inl, ?_⟩) hm⟩
    rintro (h | h)
    · exact h
    · exact absurd ((LQ_cg h).mp q2).2.2.2 w
end Leads2
