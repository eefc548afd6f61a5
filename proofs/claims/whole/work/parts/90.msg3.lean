/-! ===== messages: the reference ===== -/
theorem su_less {g : Nat → Int32} {h : Nat} : ∀ {n : Nat}, su (fun o => if o = h then 0 else g o) n = su g n - (if h < n then g h else 0)
  | 0 => by show (0 : Int32) = 0 - (if h < 0 then g h else 0); rw [if_neg (Nat.not_lt_zero _)]; rfl
  | n + 1 => by
    have ih := su_less (g := g) (h := h) (n := n)
    show su (fun o => if o = h then 0 else g o) n + (if n = h then 0 else g n) = su g n + g n - (if h < n + 1 then g h else 0)
    rw [ih]
    by_cases q : n = h
    · subst q
      rw [if_neg (Nat.lt_irrefl _), if_pos rfl, if_pos (Nat.lt_succ_self _), Int32.sub_zero, Int32.add_zero, Int32.add_sub_cancel]
    · rw [if_neg q]
      by_cases v : h < n
      · rw [if_pos v, if_pos (by omega), Int32.sub_eq_add_neg, Int32.sub_eq_add_neg, Int32.add_assoc, Int32.add_comm (-g h), ← Int32.add_assoc]
      · rw [if_neg v, if_neg (by omega), Int32.sub_zero, Int32.sub_zero]
section Msg3
variable {c1 c6 c8 c9 c10 c11 c12 c13 : Cl} {d : Ad} {sc st B B2 w : Nat} {S : Nat → Int32} {A : Nat → Nat} {X R D H Q M L E h : Nat} {K : Nat → Nat}
/-- whether a room holds one besides the others -/
theorem gl_288 {r : Nat} {c : Cl} (hS : SR c1 c8 st S R D H Q M L E K) (eS : cA c 20 B2 = S) (hr : r < 6) (hh : h < H) : ∀ (m i : Nat) (x : Int32), i + m = H → G_288 c B2 0 [nI h, nI r, x + su (fun o => if o = h then 0 else if lv S o = 0 then 0 else la1 S (q0 S) (nI r) o) i, nI i] [] [] = some (if S (82 + r) < x + su (fun o => if o = h then 0 else if lv S o = 0 then 0 else la1 S (q0 S) (nI r) o) H then 0 else 1)
  | 0, i, x, hi => by
    have : i = H := by omega
    subst this
    obtain ⟨-, -, ⟨-, hH, h6⟩, -⟩ := hS.1.1
    rw [G_288, eS, show (82 : Int32) + nI r = nI (82 + r) from nI_add 82 r]
    refine ob_mk (v := nI i) ((ald_ok (i := 2) (by decide) (by decide)).trans (by rw [hH])) (in_pos (nI_le (Nat.le_refl _) (by omega)) (ob_mk (ald_ok (by omega) (by decide)) ?_))
    by_cases q : S (82 + r) < x + su (fun o => if o = h then 0 else if lv S o = 0 then 0 else la1 S (q0 S) (nI r) o) i
    · rw [if_pos q, if_pos q]; rfl
    · rw [if_neg q, if_neg q]; rfl
  | m + 1, i, x, hi => by
    have ih := gl_288 hS eS hr hh m (i + 1) x (by omega)
    obtain ⟨-, -, ⟨-, hH, h6⟩, -⟩ := hS.1.1
    have e0 : x + su (fun o => if o = h then 0 else if lv S o = 0 then 0 else la1 S (q0 S) (nI r) o) (i + 1) = x + su (fun o => if o = h then 0 else if lv S o = 0 then 0 else la1 S (q0 S) (nI r) o) i + (if i = h then 0 else if lv S i = 0 then 0 else la1 S (q0 S) (nI r) i) := (Int32.add_assoc _ _ _).symm
    rw [e0] at ih
    rw [G_288, eS]
    refine ob_mk (v := nI H) ((ald_ok (i := 2) (by decide) (by decide)).trans (by rw [hH])) (in_neg (nI_ge (by omega) (by omega)) (ob_mk (v := if i = h then 0 else if lv S i = 0 then 0 else la1 S (q0 S) (nI r) i) ?_ (by rw [nI_1]; exact ih)))
    by_cases q : i = h
    · rw [if_pos q, if_pos (by rw [q])]
    · rw [if_neg q, if_neg (fun z => q ((nI_eq (by omega) (by omega)).mp z))]
      refine ob_mk ((f_224 (by omega)).trans (by rw [eS])) ?_
      by_cases v : lv S i = 0
      · rw [if_pos v, if_pos v]
      · rw [if_neg v, if_neg v]
        refine ob_mk (v := nI (q0 S i)) ((f_223 (w := 0) (by omega) (by decide)).trans (by rw [eS, q0_nI hS (by omega) v])) ?_
        unfold la1
        by_cases u : nI (q0 S i) = nI r
        · rw [if_pos u, if_pos u]; exact ob_mk ((f_223 (w := 1) (by omega) (by decide)).trans (by rw [eS])) rfl
        · rw [if_neg u, if_neg u]
theorem f_288 {r : Nat} {c : Cl} (hS : SR c1 c8 st S R D H Q M L E K) (eS : cA c 20 B2 = S) (hr : r < 6) (hh : h < H) (hl : ¬ lv S h = 0) : F_288 c B2 (nI h) (nI r) = some (if S (82 + r) < hot S H h r + S (40 + 6 * h + 1) then 0 else 1) := by
  obtain ⟨⟨-, -, r6⟩, -, ⟨-, hH, h6⟩, -⟩ := hS.1.1
  have ql := q0_lt hS hh hl
  unfold F_288
  refine ob_mk ((f_223 (w := 1) (by omega) (by decide)).trans (by rw [eS])) ?_
  have g := gl_288 (r := r) hS eS hr hh H 0 (S (40 + 6 * h + 1)) (by omega)
  rw [show su (fun o => if o = h then 0 else if lv S o = 0 then 0 else la1 S (q0 S) (nI r) o) 0 = 0 from rfl, Int32.add_zero, su_less] at g
  rw [if_pos hh, if_neg hl] at g
  refine g.trans ?_
  have e : S (40 + 6 * h + 1) + (su (fun o => if lv S o = 0 then 0 else la1 S (q0 S) (nI r) o) H - la1 S (q0 S) (nI r) h) = hot S H h r + S (40 + 6 * h + 1) := by
    rw [Int32.add_comm]
    unfold hot la
    have : la1 S (q0 S) (nI r) h = if r = q0 S h then S (40 + 6 * h + 1) else 0 := by
      unfold la1
      by_cases u : r = q0 S h
      · rw [if_pos u, if_pos (by rw [u])]
      · rw [if_neg u, if_neg (fun z => u ((nI_eq (by omega) (by omega)).mp z).symm)]
    rw [this]
  rw [e]
/-- the rooms to which a set widens, by the reference -/
theorem gl_287b {c : Cl} {s r : Nat} (hS : SR c1 c8 st S R D H Q M L E K) (eS : cA c 20 B2 = S) (hh : h < H) (hl : ¬ lv S h = 0) (hr : r < R) (hb : s.testBit r = true) : ∀ (m y : Nat), y + m = R → G_287 c B2 1 [nI h, nI s, nI (mk (fun j => s.testBit j || anyb (fun x => s.testBit x && lk S H D h x j) r || (decide (j < y) && lk S H D h r j)) R), nI r, nI y] [] [] = G_287 c B2 0 [nI h, nI s, nI (mk (fun j => s.testBit j || anyb (fun x => s.testBit x && lk S H D h x j) (r + 1)) R), nI (r + 1)] [] []
  | 0, y, hy => by
    have : y = R := by omega
    subst this
    obtain ⟨⟨-, hR, r6⟩, -⟩ := hS.1.1
    conv => lhs; rw [G_287]
    refine ob_e (v := nI y) ((ald_ok (i := 0) (by decide) (by decide)).trans (by rw [eS, hR])) ?_
    rw [if_pos (nI_le (Nat.le_refl _) (by omega)), nI_1]
    congr 5
    refine mk_cg fun j hj => ?_
    show _ = (s.testBit j || (anyb _ r || _))
    simp [hb, hj, Bool.or_assoc]
  | m + 1, y, hy => by
    have ih := gl_287b hS eS hh hl hr hb m (y + 1) (by omega)
    obtain ⟨⟨-, hR, r6⟩, ⟨-, hD, d10⟩, -⟩ := hS.1.1
    rw [← ih]
    conv => lhs; rw [G_287]
    refine ob_e (v := nI R) ((ald_ok (i := 0) (by decide) (by decide)).trans (by rw [eS, hR])) ?_
    rw [if_neg (nI_ge (by omega) (by omega)), nI_1]
    refine ob_e ((f_232 (by rw [eS]; exact hD) d10).trans (by rw [eS])) (ob_e (f_171 _ _) ?_)
    have same : lk S H D h r y = false → mk (fun j => s.testBit j || anyb (fun x => s.testBit x && lk S H D h x j) r || (decide (j < y + 1) && lk S H D h r j)) R = mk (fun j => s.testBit j || anyb (fun x => s.testBit x && lk S H D h x j) r || (decide (j < y) && lk S H D h r j)) R := fun e => mk_cg fun j hj => by
      by_cases u : j = y
      · subst u; simp [e]
      · have : (j < y + 1) = (j < y) := by simp; omega
        simp [this]
    by_cases b : bit1 (bs S (nI r) D) (nI y) = 0
    · refine ob_e (v := 0) (in_pos b rfl) ?_
      rw [Int32.or_zero, same (by unfold lk; simp [b])]
    · by_cases v : S (82 + y) < hot S H h y + S (40 + 6 * h + 1)
      · refine ob_e (v := 0) (in_neg b (ob_mk (f_288 hS eS (by omega) hh hl) (in_pos (if_pos v) rfl))) ?_
        rw [Int32.or_zero, same (by unfold lk; simp [v])]
      · refine ob_e (in_neg b (ob_mk (f_288 hS eS (by omega) hh hl) (in_neg (by rw [if_neg v]; decide) rfl))) ?_
        rw [mk_or1 (by omega) (by omega)]
        congr 5
        refine mk_cg fun j hj => ?_
        by_cases u : j = y
        · subst u
          have : lk S H D h r j = true := by unfold lk; simp [b, v]
          simp [this]
        · have : (j < y + 1) = (j < y) := by simp; omega
          simp [this, u]
theorem gl_287a {c : Cl} {s : Nat} (hS : SR c1 c8 st S R D H Q M L E K) (eS : cA c 20 B2 = S) (hh : h < H) (hl : ¬ lv S h = 0) (hs : s < 64) : ∀ (m r : Nat), r + m = R → G_287 c B2 0 [nI h, nI s, nI (mk (fun j => s.testBit j || anyb (fun x => s.testBit x && lk S H D h x j) r) R), nI r] [] [] = some (nI (mk (fun j => s.testBit j || anyb (fun x => s.testBit x && lk S H D h x j) R) R))
  | 0, r, hr => by
    have : r = R := by omega
    subst this
    obtain ⟨⟨-, hR, r6⟩, -⟩ := hS.1.1
    rw [G_287]
    exact ob_mk (v := nI r) ((ald_ok (i := 0) (by decide) (by decide)).trans (by rw [eS, hR])) (in_pos (nI_le (Nat.le_refl _) (by omega)) rfl)
  | m + 1, r, hr => by
    have ih := gl_287a hS eS hh hl hs m (r + 1) (by omega)
    obtain ⟨⟨-, hR, r6⟩, -⟩ := hS.1.1
    rw [G_287]
    refine ob_mk (v := nI R) ((ald_ok (i := 0) (by decide) (by decide)).trans (by rw [eS, hR])) (in_neg (nI_ge (by omega) (by omega)) (ob_mk (f_171 _ _) ?_))
    rw [b1_tb (show r < 32 by omega)]
    by_cases q : s.testBit r = true
    · rw [if_pos q]
      refine in_neg (by decide) ?_
      have b := gl_287b (c := c) hS eS hh hl (show r < R by omega) q R 0 (by omega)
      have e : mk (fun j => s.testBit j || anyb (fun x => s.testBit x && lk S H D h x j) r || (decide (j < 0) && lk S H D h r j)) R = mk (fun j => s.testBit j || anyb (fun x => s.testBit x && lk S H D h x j) r) R := mk_cg fun j hj => by simp
      rw [e] at b
      exact b.trans ih
    · rw [if_neg q]
      refine in_pos rfl ?_
      rw [nI_1]
      have e : mk (fun j => s.testBit j || anyb (fun x => s.testBit x && lk S H D h x j) (r + 1)) R = mk (fun j => s.testBit j || anyb (fun x => s.testBit x && lk S H D h x j) r) R := mk_cg fun j hj => by
        show (s.testBit j || (anyb _ r || _)) = _
        simp [q]
      rw [e] at ih
      exact ih
theorem f_287 {c : Cl} {s : Nat} (hS : SR c1 c8 st S R D H Q M L E K) (eS : cA c 20 B2 = S) (hh : h < H) (hl : ¬ lv S h = 0) (hs : s < 2 ^ R) : F_287 c B2 (nI h) (nI s) = some (nI (mk (wi S R H D h s) R)) := by
  obtain ⟨⟨-, hR, r6⟩, -⟩ := hS.1.1
  have l6 : (2 : Nat) ^ R ≤ 2 ^ 6 := Nat.pow_le_pow_right (by decide) r6
  have g := gl_287a (c := c) (s := s) hS eS hh hl (by omega) R 0 (by omega)
  have e0 : mk (fun j => s.testBit j || anyb (fun x => s.testBit x && lk S H D h x j) 0) R = s := by
    refine Eq.trans (mk_cg fun j hj => ?_) (mk_of hs)
    show (s.testBit j || false) = _
    rw [Bool.or_false]
  rw [e0] at g
  unfold F_287
  refine g.trans ?_
  congr 2
  refine mk_cg fun j hj => ?_
  unfold wi
  rw [Bool.eq_iff_iff, Bool.or_eq_true, anyb_t, anyb_t]
  constructor
  · rintro (u | ⟨x, hx, u⟩)
    · exact ⟨j, hj, by unfold rt; simp [u]⟩
    · rw [Bool.and_eq_true] at u
      exact ⟨x, hx, by unfold rt; simp [u.1, u.2]⟩
  · rintro ⟨x, hx, u⟩
    rw [Bool.and_eq_true] at u
    have u2 := u.2
    unfold rt at u2
    rw [Bool.or_eq_true] at u2
    rcases u2 with e | e
    · simp only [decide_eq_true_eq] at e
      rw [e]; exact Or.inl u.1
    · exact Or.inr ⟨x, hx, by rw [u.1, e]; rfl⟩
/-- a code of senses: the rooms that have it, among some -/
def sto (S : Nat → Int32) (R H D Q h s t k : Nat) : Bool := decide (¬ t = 0) && decide (mk (fun y => wi S R H D h s y && decide (sm S y Q = k)) R = t)
theorem sto_sum {s t : Nat} {v : Int64} (q6 : Q ≤ 6) : sl (fun k => if sto S R H D Q h s t k = true then v else 0) 64 = if kb S R H D Q h s t = true then v else 0 := by
  have sl6 : ∀ r, sm S r Q < 64 := fun r => by
    have := sm_lt S r Q
    have l6 : (2 : Nat) ^ Q ≤ 2 ^ 6 := Nat.pow_le_pow_right (by decide) q6
    omega
  have un : ∀ i j, i < 64 → j < 64 → sto S R H D Q h s t i = true → sto S R H D Q h s t j = true → i = j := fun i j hi hj a b => by
    unfold sto at a b
    simp only [Bool.and_eq_true, decide_eq_true_eq] at a b
    obtain ⟨y, hy, u⟩ := mk_nz (p := fun y => wi S R H D h s y && decide (sm S y Q = i)) (n := R) (by rw [a.2]; exact a.1)
    have e := mk_ij (a.2.trans b.2.symm) hy
    have u2 := u
    rw [e] at u2
    simp only [Bool.and_eq_true, decide_eq_true_eq] at u u2
    omega
  rw [sl_1 un]
  have e : anyb (sto S R H D Q h s t) 64 = kb S R H D Q h s t := by
    rw [Bool.eq_iff_iff, anyb_t]
    unfold kb
    rw [Bool.and_eq_true, anyb_t]
    constructor
    · rintro ⟨k, hk, u⟩
      unfold sto at u
      simp only [Bool.and_eq_true, decide_eq_true_eq] at u
      obtain ⟨y, hy, v⟩ := mk_nz (p := fun y => wi S R H D h s y && decide (sm S y Q = k)) (n := R) (by rw [u.2]; exact u.1)
      simp only [Bool.and_eq_true, decide_eq_true_eq] at v
      refine ⟨by simp [u.1], y, hy, ?_⟩
      simp only [decide_eq_true_eq]
      rw [← u.2]
      refine mk_cg fun z _ => ?_
      unfold al
      rw [v.2]
      by_cases e : sm S z Q = k
      · simp [e]
      · have e' : ¬ k = sm S z Q := fun q => e q.symm
        simp [e, e']
    · rintro ⟨u, x, hx, v⟩
      simp only [decide_eq_true_eq] at u v
      refine ⟨sm S x Q, sl6 x, ?_⟩
      unfold sto
      simp only [Bool.and_eq_true, decide_eq_true_eq]
      refine ⟨u, ?_⟩
      rw [← v]
      refine mk_cg fun z _ => ?_
      unfold al
      by_cases e : sm S z Q = sm S x Q
      · simp [e]
      · have e' : ¬ sm S x Q = sm S z Q := fun q => e q.symm
        simp [e, e']
  rw [e]
/-- the rooms with a code, one after the other -/
theorem gl_289d {c : Cl} {s k : Nat} {W : Nat → Bool} (hS : SR c1 c8 st S R D H Q M L E K) (eS : cA c 20 B2 = S) (hs : s < 64) (hk : k < 64) : ∀ (m y : Nat), y + m = R → G_289 B2 3 [nI h, nI s, nI (mk W R), nI k, nI (mk (fun j => decide (j < y) && (W j && decide (sm S j Q = k))) R), nI y] [] [] c = (((if mk (fun j => W j && decide (sm S j Q = k)) R = 0 then some c else some (sB c 44 B2 (vp_updL (cB c 44 B2) (mk (fun j => W j && decide (sm S j Q = k)) R) (cB c 44 B2 (mk (fun j => W j && decide (sm S j Q = k)) R) + cB c 43 B2 s)))) : Option Cl) >>= fun t => G_289 B2 2 [nI h, nI s, nI (mk W R), nI (k + 1)] [] [] t)
  | 0, y, hy => by
    have : y = R := by omega
    subst this
    obtain ⟨⟨-, hR, r6⟩, -⟩ := hS.1.1
    have l6 : (2 : Nat) ^ y ≤ 2 ^ 6 := Nat.pow_le_pow_right (by decide) r6
    have lt := mk_lt (fun j => W j && decide (sm S j Q = k)) y
    conv => lhs; rw [G_289]
    refine ob_e (v := nI y) ((ald_ok (i := 0) (by decide) (by decide)).trans (by rw [eS, hR])) ?_
    rw [if_pos (nI_le (Nat.le_refl _) (by omega)), nI_1]
    rw [show mk (fun j => decide (j < y) && (W j && decide (sm S j Q = k))) y = mk (fun j => W j && decide (sm S j Q = k)) y from mk_cg fun j hj => by simp [hj]]
    by_cases q : mk (fun j => W j && decide (sm S j Q = k)) y = 0
    · rw [if_pos q, if_pos ((mk_0 (by omega)).mpr q)]
    · rw [if_neg q, if_neg (fun z => q ((mk_0 (by omega)).mp z))]
      exact ob_e (ob_mk (ldl_ok (by omega) (by decide)) (ob_mk (ldl_ok hs (by decide)) (ob_mk (stl_ok (by omega) (by decide)) rfl))) rfl
  | m + 1, y, hy => by
    have ih := gl_289d (W := W) hS eS hs hk m (y + 1) (by omega)
    obtain ⟨⟨-, hR, r6⟩, -, -, ⟨-, hQ, q6⟩, -⟩ := hS.1.1
    have s6 : sm S y Q < 2 ^ 31 := by
      have := sm_lt S y Q
      have l6 : (2 : Nat) ^ Q ≤ 2 ^ 6 := Nat.pow_le_pow_right (by decide) q6
      omega
    rw [← ih]
    conv => lhs; rw [G_289]
    refine ob_e (v := nI R) ((ald_ok (i := 0) (by decide) (by decide)).trans (by rw [eS, hR])) ?_
    rw [if_neg (nI_ge (by omega) (by omega)), nI_1]
    refine ob_e (f_171 _ _) ?_
    rw [b1_mk (show y < R by omega) (by omega)]
    have no : (W y && decide (sm S y Q = k)) = false → mk (fun j => decide (j < y + 1) && (W j && decide (sm S j Q = k))) R = mk (fun j => decide (j < y) && (W j && decide (sm S j Q = k))) R := fun e => mk_cg fun j hj => by
      by_cases u : j = y
      · subst u; rw [e]; simp
      · have : (j < y + 1) = (j < y) := by simp; omega
        simp [this]
    by_cases q : W y = true
    · rw [if_pos q]
      by_cases v : sm S y Q = k
      · refine ob_e (in_neg (by decide) (ob_mk ((f_286 (by rw [eS]; exact hQ) q6).trans (by rw [eS])) (in_pos (by rw [v]) rfl))) ?_
        rw [mk_or1 (by omega) (by omega)]
        congr 7
        refine mk_cg fun j hj => ?_
        by_cases u : j = y
        · subst u; simp [q, v]
        · have : (j < y + 1) = (j < y) := by simp; omega
          simp [this, u]
      · refine ob_e (v := 0) (in_neg (by decide) (ob_mk ((f_286 (by rw [eS]; exact hQ) q6).trans (by rw [eS])) (in_neg (fun z => v ((nI_eq s6 (by omega)).mp z)) rfl))) ?_
        rw [Int32.or_zero, no (by simp [v])]
    · rw [if_neg q]
      refine ob_e (v := 0) (in_pos rfl rfl) ?_
      rw [Int32.or_zero, no (by simp [q])]
/-- all codes -/
theorem gl_289c {s : Nat} {Po : Cl → Prop} {c0 : Cl} (hS : SR c1 c8 st S R D H Q M L E K) (eS : cA c0 20 B2 = S) (hs : s < 64) (ks : ∀ c', Kp [44] c0 c' → (∀ t, t < 64 → cB c' 44 B2 t = cB c0 44 B2 t + if kb S R H D Q h s t = true then cB c0 43 B2 s else 0) → Rn (G_289 B2 1 [nI h, nI (s + 1)] [] [] c') Po) : ∀ (m k : Nat) (c' : Cl), k + m = 64 → Kp [44] c0 c' → (∀ t, t < 64 → cB c' 44 B2 t = cB c0 44 B2 t + sl (fun k => if sto S R H D Q h s t k = true then cB c0 43 B2 s else 0) k) → Rn (G_289 B2 2 [nI h, nI s, nI (mk (wi S R H D h s) R), nI k] [] [] c') Po
  | 0, k, c', hk, hK, h1 => by
    have : k = 64 := by omega
    subst this
    have q6 := hS.1.1.2.2.2.1.2.2
    rw [G_289]
    refine rn_p (by decide) ?_
    rw [nI_1]
    exact ks c' hK (fun t ht => by rw [h1 t ht, sto_sum q6])
  | m + 1, k, c', hk, hK, h1 => by
    have r6 := hS.1.1.1.2.2
    have l6 : (2 : Nat) ^ R ≤ 2 ^ 6 := Nat.pow_le_pow_right (by decide) r6
    have lt := mk_lt (fun j => wi S R H D h s j && decide (sm S j Q = k)) R
    have e43 : cB c' 43 B2 = cB c0 43 B2 := by rw [(hK 43 (by decide)).2.2.2.2.1]
    rw [G_289]
    refine rn_n (show ¬ (64 : Int32) ≤ nI k from nI_ge (a := k) (b := 64) (by omega) (by decide)) ?_
    have g := gl_289d (c := c') (h := h) (s := s) (k := k) (W := wi S R H D h s) hS (by rw [(hK 20 (by decide)).2.2.2.1]; exact eS) hs (by omega) R 0 (by omega)
    rw [show mk (fun j => decide (j < 0) && (wi S R H D h s j && decide (sm S j Q = k))) R = 0 from mk_z fun j _ => by simp] at g
    have g' : G_289 B2 3 [nI h, nI s, nI (mk (wi S R H D h s) R), nI k, 0, 0] [] [] c' = _ := g
    rw [g']
    have nx : ∀ t, cB c0 44 B2 t + sl (fun k => if sto S R H D Q h s t k = true then cB c0 43 B2 s else 0) (k + 1) = cB c0 44 B2 t + sl (fun k => if sto S R H D Q h s t k = true then cB c0 43 B2 s else 0) k + (if sto S R H D Q h s t k = true then cB c0 43 B2 s else 0) := fun t => (Int64.add_assoc _ _ _).symm
    by_cases q : mk (fun j => wi S R H D h s j && decide (sm S j Q = k)) R = 0
    · rw [if_pos q]
      refine rn_s (gl_289c hS eS hs ks m (k + 1) c' (by omega) hK (fun t ht => ?_))
      have : sto S R H D Q h s t k = false := by
        unfold sto
        rw [q]
        by_cases z : t = 0
        · simp [z]
        · have z' : ¬ 0 = t := fun e => z e.symm
          simp [z']
      rw [nx, this, h1 t ht]
      exact (Int64.add_zero _).symm
    · rw [if_neg q]
      refine rn_s (gl_289c hS eS hs ks m (k + 1) _ (by omega) (kp_tr hK (kp_B (by decide))) (fun t ht => ?_))
      rw [nx, cB_same, e43]
      by_cases z : t = mk (fun j => wi S R H D h s j && decide (sm S j Q = k)) R
      · have : sto S R H D Q h s t k = true := by unfold sto; rw [z]; simp [q]
        rw [this, if_pos rfl, z, pk_uLs, ← z, h1 t ht]
      · have : sto S R H D Q h s t k = false := by
          unfold sto
          have z' : ¬ mk (fun j => wi S R H D h s j && decide (sm S j Q = k)) R = t := fun e => z e.symm
          simp [z']
        rw [this, if_neg (by decide), Int64.add_zero, pk_uLn z]; exact h1 t ht
/-- all sets -/
theorem gl_289b {f : Nat → Int64} {Po : Cl → Prop} {c0 : Cl} (hS : SR c1 c8 st S R D H Q M L E K) (eS : cA c0 20 B2 = S) (hh : h < H) (hl : ¬ lv S h = 0) (hz : Rwz R f) (hf : ∀ t, t < 64 → cB c0 43 B2 t = f t) (ks : ∀ c', Kp [44] c0 c' → (∀ t, t < 64 → cB c' 44 B2 t = nxr S R H D Q h f 64 t) → Rn (G_289 B2 4 [0] [] [] c') Po) : ∀ (m s : Nat) (c' : Cl), s + m = 64 → Kp [44] c0 c' → (∀ t, t < 64 → cB c' 44 B2 t = nxr S R H D Q h f s t) → Rn (G_289 B2 1 [nI h, nI s] [] [] c') Po
  | 0, s, c', hs, hK, h1 => by
    have : s = 64 := by omega
    subst this
    rw [G_289]
    exact rn_p (by decide) (ks c' hK h1)
  | m + 1, s, c', hs, hK, h1 => by
    have e43 : ∀ t, t < 64 → cB c' 43 B2 t = f t := fun t ht => by rw [(hK 43 (by decide)).2.2.2.2.1]; exact hf t ht
    rw [G_289]
    refine rn_n (show ¬ (64 : Int32) ≤ nI s from nI_ge (a := s) (b := 64) (by omega) (by decide)) (rn_ll (by omega) (by decide) ?_)
    rw [e43 s (by omega)]
    have nx : ∀ z, nxr S R H D Q h f (s + 1) z = nxr S R H D Q h f s z + if kb S R H D Q h s z = true then f s else 0 := fun z => rfl
    by_cases q : f s = 0
    · refine rn_p ((lg_cmp_eq _ _).mpr q) ?_
      rw [nI_1]
      refine gl_289b hS eS hh hl hz hf ks m (s + 1) c' (by omega) hK (fun t ht => ?_)
      rw [nx, q, h1 t ht]
      split <;> exact (Int64.add_zero _).symm
    · have sR : s < 2 ^ R := Nat.lt_of_not_le fun z => q (hz.2 s z (by omega))
      have eS' : cA c' 20 B2 = S := by rw [(hK 20 (by decide)).2.2.2.1]; exact eS
      refine rn_n (fun z => q ((lg_cmp_eq _ _).mp z)) (rn_e (f_287 hS eS' hh hl sR) ?_)
      refine gl_289c (c0 := c') hS eS' (by omega) (fun t t1 t2 => gl_289b hS eS hh hl hz hf ks m (s + 1) t (by omega) (kp_tr hK t1) (fun z hz' => ?_)) 64 0 c' (by omega) (kp_rf _ _) (fun t ht => by show _ = _ + 0; rw [Int64.add_zero])
      rw [t2 z hz', nx, h1 z hz', e43 s (by omega)]
theorem gl_289e {f : Nat → Int64} {c0 : Cl} (hf : ∀ t, t < 64 → cB c0 44 B2 t = f t) : ∀ (m s : Nat) (c' : Cl), s + m = 64 → Kp [43] c0 c' → (∀ t, t < s → cB c' 43 B2 t = f t) → Rn (G_289 B2 4 [nI s] [] [] c') (fun r => Kp [43] c0 r ∧ ∀ t, t < 64 → cB r 43 B2 t = f t)
  | 0, s, c', hs, hK, h1 => by
    have : s = 64 := by omega
    subst this
    rw [G_289]
    exact rn_p (by decide) (rn_r ⟨hK, h1⟩)
  | m + 1, s, c', hs, hK, h1 => by
    rw [G_289]
    refine rn_n (show ¬ (64 : Int32) ≤ nI s from nI_ge (a := s) (b := 64) (by omega) (by decide)) (rn_ll (by omega) (by decide) (rn_sl (by omega) (by decide) ?_))
    rw [nI_1]
    refine gl_289e hf m (s + 1) _ (by omega) (kp_tr hK (kp_B (by decide))) (fun t ht => ?_)
    rw [cB_same]
    by_cases z : t = s
    · rw [z, pk_uLs, (hK 44 (by decide)).2.2.2.2.1]; exact hf s (by omega)
    · rw [pk_uLn z]; exact h1 t (by omega)
theorem gl_289a {Po : Cl → Prop} {c0 : Cl} (ks : ∀ c', Kp [44] c0 c' → (∀ t, t < 64 → cB c' 44 B2 t = 0) → Rn (G_289 B2 1 [nI h, 1] [] [] c') Po) : ∀ (m s : Nat) (c' : Cl), s + m = 64 → Kp [44] c0 c' → (∀ t, t < s → cB c' 44 B2 t = 0) → Rn (G_289 B2 0 [nI h, nI s] [] [] c') Po
  | 0, s, c', hs, hK, h1 => by
    have : s = 64 := by omega
    subst this
    rw [G_289]
    exact rn_p (by decide) (ks c' hK h1)
  | m + 1, s, c', hs, hK, h1 => by
    rw [G_289]
    refine rn_n (show ¬ (64 : Int32) ≤ nI s from nI_ge (a := s) (b := 64) (by omega) (by decide)) (rn_sl (by omega) (by decide) ?_)
    rw [nI_1]
    refine gl_289a ks m (s + 1) _ (by omega) (kp_tr hK (kp_B (by decide))) (fun t ht => ?_)
    rw [cB_same]
    by_cases z : t = s
    · rw [z, pk_uLs]
    · rw [pk_uLn z]; exact h1 t (by omega)
theorem f_289 {f : Nat → Int64} {c0 : Cl} (hS : SR c1 c8 st S R D H Q M L E K) (eS : cA c0 20 B2 = S) (hh : h < H) (hl : ¬ lv S h = 0) (hz : Rwz R f) (hf : ∀ t, t < 64 → cB c0 43 B2 t = f t) : Rn (F_289 c0 B2 (nI h)) (fun r => Kp [43, 44] c0 r ∧ ∀ t, t < 64 → cB r 43 B2 t = nxr S R H D Q h f 64 t) := by
  unfold F_289
  refine gl_289a (c0 := c0) (fun c' k1 h1 => ?_) 64 0 c0 rfl (kp_rf _ _) (fun t ht => absurd ht (Nat.not_lt_zero _))
  refine gl_289b (c0 := c') (f := f) hS (by rw [(k1 20 (by decide)).2.2.2.1]; exact eS) hh hl hz (fun t ht => by rw [(k1 43 (by decide)).2.2.2.2.1]; exact hf t ht) (fun c2 k2 h2 => ?_) 63 1 c' rfl (kp_rf _ _) (fun t ht => ?_)
  · exact rn_m (gl_289e (c0 := c2) h2 64 0 c2 rfl (kp_rf _ _) (fun t ht => absurd ht (Nat.not_lt_zero _))) (fun r ⟨a, b⟩ => ⟨kp_tr (kp_wd k1 (by decide)) (kp_tr (kp_wd k2 (by decide)) (kp_wd a (by decide))), b⟩)
  · rw [h1 t ht]
    show 0 = 0 + (if kb S R H D Q h 0 t = true then _ else 0)
    rw [kb_s0]; rfl
end Msg3
