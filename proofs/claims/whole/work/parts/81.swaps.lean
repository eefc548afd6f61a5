/-! ===== swaps: both alike ===== -/
theorem ob_e {α β : Type} {x : Option α} {f : α → Option β} {v : α} {y : Option β} (h : x = some v) (k : f v = y) : (x >>= f) = y := by subst h; exact k
/-- the senses that have a room, as bits -/
def sm (S : Nat → Int32) (r : Nat) : Nat → Nat
  | 0 => 0
  | s + 1 => sm S r s + (if bit1 (S (88 + s)) (nI r) = 0 then 0 else 2 ^ s)
theorem sm_lt (S : Nat → Int32) (r : Nat) : ∀ n, sm S r n < 2 ^ n
  | 0 => by show 0 < 2 ^ 0; decide
  | n + 1 => by
    have := sm_lt S r n
    show sm S r n + (if bit1 (S (88 + n)) (nI r) = 0 then 0 else 2 ^ n) < 2 ^ (n + 1)
    rw [Nat.pow_succ]
    split <;> omega
theorem wt_lt (S : Nat → Int32) (r : Nat) : ∀ n, wt S r n < 2 ^ (8 * n)
  | 0 => by show 0 < 2 ^ 0; decide
  | n + 1 => by
    have := wt_lt S r n
    show wt S r n + (if bit1 (S (88 + n)) (nI r) = 0 then 0 else 2 ^ (8 * n)) < 2 ^ (8 * (n + 1))
    rw [show 8 * (n + 1) = 8 * n + 8 by omega, Nat.pow_add]
    have e : (2 : Nat) ^ 8 = 256 := rfl
    split <;> omega
theorem wt_sm (S : Nat → Int32) (r t : Nat) : ∀ n, wt S r n = wt S t n ↔ sm S r n = sm S t n
  | 0 => ⟨fun _ => rfl, fun _ => rfl⟩
  | n + 1 => by
    have ih := wt_sm S r t n
    have a1 := wt_lt S r n
    have a2 := wt_lt S t n
    have b1 := sm_lt S r n
    have b2 := sm_lt S t n
    show wt S r n + (if bit1 (S (88 + n)) (nI r) = 0 then 0 else 2 ^ (8 * n)) = wt S t n + (if bit1 (S (88 + n)) (nI t) = 0 then 0 else 2 ^ (8 * n)) ↔ sm S r n + (if bit1 (S (88 + n)) (nI r) = 0 then 0 else 2 ^ n) = sm S t n + (if bit1 (S (88 + n)) (nI t) = 0 then 0 else 2 ^ n)
    by_cases u : bit1 (S (88 + n)) (nI r) = 0
    · by_cases v : bit1 (S (88 + n)) (nI t) = 0
      · rw [if_pos u, if_pos u, if_pos v, if_pos v]; exact ih
      · rw [if_pos u, if_pos u, if_neg v, if_neg v]; constructor <;> intro h <;> omega
    · by_cases v : bit1 (S (88 + n)) (nI t) = 0
      · rw [if_neg u, if_neg u, if_pos v, if_pos v]; constructor <;> intro h <;> omega
      · rw [if_neg u, if_neg u, if_neg v, if_neg v]
        constructor
        · intro h; have := ih.mp (by omega); omega
        · intro h; have := ih.mpr (by omega); omega
/-- a door between two rooms that is open -/
def dl (S : Nat → Int32) (x y : Nat) : Nat → Bool
  | 0 => false
  | n + 1 => dl S x y n || (decide (¬ S (10 + 3 * n + 2) = 0) && ((decide (S (10 + 3 * n) = nI x) && decide (S (10 + 3 * n + 1) = nI y)) || (decide (S (10 + 3 * n + 1) = nI x) && decide (S (10 + 3 * n) = nI y))))
theorem dl_sym (S : Nat → Int32) (x y : Nat) : ∀ n, dl S x y n = dl S y x n
  | 0 => rfl
  | n + 1 => by
    show (dl S x y n || _) = (dl S y x n || _)
    rw [dl_sym S x y n, Bool.and_comm (decide (S (10 + 3 * n) = nI x)), Bool.and_comm (decide (S (10 + 3 * n + 1) = nI x)), Bool.or_comm (decide (S (10 + 3 * n + 1) = nI y) && _)]
theorem bs_bt {S : Nat → Int32} {R x y : Nat} (hx : x < 6) (hy : y < 6) : ∀ {D : Nat}, (∀ i, i < D → ∃ u v, u < 6 ∧ v < 6 ∧ S (10 + 3 * i) = nI u ∧ S (10 + 3 * i + 1) = nI v) → bt (bs S (nI x) D) y = dl S x y D
  | 0, _ => b_0 y
  | n + 1, h => by
    have ih := bs_bt (S := S) (R := R) hx hy (D := n) (fun i q => h i (by omega))
    obtain ⟨u, v, hu, hv, eu, ev⟩ := h n (by omega)
    have ne : ∀ a b : Nat, a < 6 → b < 6 → decide (nI a = nI b) = decide (a = b) := fun a b ha hb => by
      by_cases w : a = b
      · subst w; simp
      · have : ¬ nI a = nI b := fun e => w ((nI_eq (by omega) (by omega)).mp e)
        simp [w, this]
    have ni : ∀ a b : Nat, a < 6 → b < 6 → (nI a = nI b ↔ a = b) := fun a b ha hb => nI_eq (by omega) (by omega)
    show bt (bs1 S (nI x) (bs S (nI x) n) n) y = (dl S x y n || _)
    rw [← ih]
    unfold bs1
    rw [eu, ev, ne u x hu hx, ne v y hv hy, ne v x hv hx, ne u y hu hy]
    have sh1 : ∀ a, a < 6 → bt ((1 : Int32) <<< (nI a &&& 31)) y = decide (a = y) := fun a ha => by
      rw [bt_sh (by omega) (by omega)]
      by_cases w : a = y
      · subst w; simp
      · have : ¬ y = a := fun e => w e.symm
        simp [w, this]
    by_cases d0 : S (10 + 3 * n + 2) = 0
    · rw [if_pos d0]; simp [d0]
    · rw [if_neg d0]
      by_cases w1 : v = x
      · rw [if_pos ((ni v x hv hx).mpr w1), b_or, sh1 u hu]
        by_cases w2 : u = x
        · rw [if_pos ((ni u x hu hx).mpr w2), b_or, sh1 v hv]
          simp [d0, w1, w2]
        · rw [if_neg (fun e => w2 ((ni u x hu hx).mp e))]
          simp [d0, w1, w2]
      · rw [if_neg (fun e => w1 ((ni v x hv hx).mp e))]
        by_cases w2 : u = x
        · rw [if_pos ((ni u x hu hx).mpr w2), b_or, sh1 v hv]
          simp [d0, w1, w2]
        · rw [if_neg (fun e => w2 ((ni u x hu hx).mp e))]
          simp [d0, w1, w2]
section Swaps
variable {c1 c6 c8 c9 c10 c11 c12 : Cl} {sc st B B2 : Nat} {S : Nat → Int32} {A : Nat → Nat} {X R D H Q M L E : Nat} {K : Nat → Nat}
/-- links go both ways -/
theorem bs_sym (hS : SR c1 c8 st S R D H Q M L E K) {x y : Nat} (hx : x < R) (hy : y < R) : bit1 (bs S (nI x) D) (nI y) = bit1 (bs S (nI y) D) (nI x) := by
  have r6 := hS.1.1.1.2.2
  have hd : ∀ i, i < D → ∃ u v, u < 6 ∧ v < 6 ∧ S (10 + 3 * i) = nI u ∧ S (10 + 3 * i + 1) = nI v := fun i q => by
    obtain ⟨-, -, -, u, v, hu, hv, -, eu, ev⟩ := hS.1.2.2.2.2.2.1 i q
    exact ⟨u, v, by omega, by omega, eu, ev⟩
  rw [bit1_bt (by omega), bit1_bt (by omega), bs_bt (R := R) (by omega) (by omega) hd, bs_bt (R := R) (by omega) (by omega) hd, dl_sym]
/-- the reference's senses of a room -/
theorem gl_286 {c : Cl} {r : Nat} (hQ : cA c 20 B2 3 = nI Q) (q6 : Q ≤ 6) : ∀ m s, s + m = Q → G_286 c B2 0 [nI r, nI (sm (cA c 20 B2) r s), nI s] [] [] = some (nI (sm (cA c 20 B2) r Q))
  | 0, s, hi => by
    have : s = Q := by omega
    subst this
    rw [G_286]
    exact ob_mk (ald_ok (i := 3) (by decide) (by decide)) (in_pos (by rw [hQ]; exact nI_le (Nat.le_refl _) (by omega)) rfl)
  | m + 1, s, hi => by
    have ih := gl_286 (r := r) hQ q6 m (s + 1) (by omega)
    have l := sm_lt (cA c 20 B2) r s
    have l6 : (2 : Nat) ^ s ≤ 2 ^ 5 := Nat.pow_le_pow_right (by decide) (by omega)
    rw [G_286]
    rw [show (88 : Int32) + nI s = nI (88 + s) from nI_add 88 s]
    refine ob_mk (ald_ok (i := 3) (by decide) (by decide)) (in_neg (by rw [hQ]; exact nI_ge (by omega) (by omega)) (ob_mk (ald_ok (by omega) (by decide)) (ob_mk (f_171 _ _) ?_)))
    rw [nI_1]
    by_cases w : bit1 (cA c 20 B2 (88 + s)) (nI r) = 0
    · refine ob_mk (v := 0) (in_pos w rfl) ?_
      have e : sm (cA c 20 B2) r (s + 1) = sm (cA c 20 B2) r s := by show sm (cA c 20 B2) r s + (if bit1 (cA c 20 B2 (88 + s)) (nI r) = 0 then 0 else 2 ^ s) = _; rw [if_pos w]; rfl
      rw [e] at ih
      rw [Int32.or_zero]
      exact ih
    · refine ob_mk (in_neg w rfl) ?_
      have e : sm (cA c 20 B2) r (s + 1) = sm (cA c 20 B2) r s + 2 ^ s := by show sm (cA c 20 B2) r s + (if bit1 (cA c 20 B2 (88 + s)) (nI r) = 0 then 0 else 2 ^ s) = _; rw [if_neg w]
      rw [e] at ih
      rw [or_up ⟨s, by omega⟩ ⟨sm (cA c 20 B2) r s, by omega⟩ l]
      exact ih
theorem f_286 {c : Cl} {r : Nat} (hQ : cA c 20 B2 3 = nI Q) (q6 : Q ≤ 6) : F_286 c B2 (nI r) = some (nI (sm (cA c 20 B2) r Q)) := by
  unfold F_286
  exact gl_286 hQ q6 Q 0 (by omega)
/-- two that could swap -/
def sw (S : Nat → Int32) (D Q : Nat) (un : Bool) (a b : Nat) : Int32 := if bit1 (bs S (nI (q0 S a)) D) (nI (q0 S b)) = 0 then 0 else if un = true ∧ ¬ S (40 + 6 * a + 1) = S (40 + 6 * b + 1) ∧ ¬ sm S (q0 S a) Q = sm S (q0 S b) Q then 0 else 1
def sw2 (S : Nat → Int32) (D Q : Nat) (un : Bool) (a b : Nat) : Int32 := if lv S a = 0 then 0 else if lv S b = 0 then 0 else sw S D Q un a b
theorem su_add (f g : Nat → Int32) : ∀ n, su (fun i => f i + g i) n = su f n + su g n
  | 0 => by show (0 : Int32) = 0 + 0; rfl
  | n + 1 => by
    show su (fun i => f i + g i) n + (f n + g n) = su f n + f n + (su g n + g n)
    rw [su_add f g n, Int32.add_assoc, Int32.add_assoc, ← Int32.add_assoc (su g n), Int32.add_comm (su g n) (f n), Int32.add_assoc]
theorem su_0 : ∀ n, su (fun _ => (0 : Int32)) n = 0
  | 0 => rfl
  | n + 1 => by show su (fun _ => (0 : Int32)) n + 0 = 0; rw [su_0 n]; rfl
/-- sums over all pairs, either way -/
def tr (g : Nat → Nat → Int32) (n a : Nat) : Int32 := su (fun b => if a < b then g a b else 0) n
theorem tri (g : Nat → Nat → Int32) : ∀ n, su (fun b => su (fun a => g a b) b) n = su (tr g n) n
  | 0 => rfl
  | n + 1 => by
    have ih := tri g n
    show su (fun b => su (fun a => g a b) b) n + su (fun a => g a n) n = su (tr g (n + 1)) n + tr g (n + 1) n
    have e1 : tr g (n + 1) n = 0 := by
      have : su (fun b => if n < b then g n b else 0) (n + 1) = su (fun _ => 0) (n + 1) := su_congr (fun b hb => if_neg (Nat.not_lt.mpr (by omega)))
      exact this.trans (su_0 (n + 1))
    have e2 : su (tr g (n + 1)) n = su (fun a => tr g n a + g a n) n := su_congr fun a ha => by
      show su (fun b => if a < b then g a b else 0) n + (if a < n then g a n else 0) = _
      rw [if_pos ha]; rfl
    rw [e1, e2, su_add, ih, Int32.add_zero]
/-- the class's number of twos -/
theorem gl_112b {un : Bool} {w i : Nat} (hS : SR c1 c8 st S R D H Q M L E K) (hw : cR c9 0 w = sc) (hC : SC c6 sc S R D H Q) (hA : AT c6 sc S R H (q0 S)) (hi : i < lc S H) : ∀ (m j : Nat) (x : Int32), j + m = i → G_112 c1 c6 c8 c9 w st 1 [(if un then 1 else 0), x + su (fun j => sw S D Q un (nbf S H j) (nbf S H i)) j, nI i, nI j] [] [] = G_112 c1 c6 c8 c9 w st 0 [(if un then 1 else 0), x + su (fun j => sw S D Q un (nbf S H j) (nbf S H i)) i, nI (i + 1)] [] []
  | 0, j, x, hj => by
    have : j = i := by omega
    subst this
    have ll := lc_le S H
    have h6 := hS.1.1.2.2.1.2.2
    conv => lhs; rw [G_112]
    rw [if_pos (nI_le (Nat.le_refl _) (by omega)), nI_1]
  | m + 1, j, x, hj => by
    have ih := gl_112b (un := un) hS hw hC hA hi m (j + 1) x (by omega)
    have ll := lc_le S H
    have h6 := hS.1.1.2.2.1.2.2
    have q6 := hS.1.1.2.2.2.1.2.2
    have r6 := hS.1.1.1.2.2
    obtain ⟨a1, a2, a3⟩ := nbf_ok (S := S) (n := H) hi
    obtain ⟨b1, b2, b3⟩ := nbf_ok (S := S) (n := H) (i := j) (by omega)
    have qi := q0_lt hS a1 a2
    have qj := q0_lt hS b1 b2
    rw [← ih]
    conv => lhs; rw [G_112]
    rw [hw]
    have e5 : ∀ k, k < lc S H → ald (cA c6 5 sc) 6 (nI k) = some (S (40 + 6 * nbf S H k + 1)) := fun k hk => (ald_ok (by omega) (by decide)).trans (by rw [(hC.2.2.2.1 k hk).2.1])
    have e10 : ∀ k, k < lc S H → ald (cA c6 10 sc) 6 (nI k) = some (nI (q0 S (nbf S H k))) := fun k hk => (ald_ok (by omega) (by decide)).trans (by rw [hA.1 k hk])
    have e9 : ∀ x, x < R → ldl (cB c6 9 sc) 6 (nI x) = some (lN (wt S x Q)) := fun x hx => (ldl_ok (by omega) (by decide)).trans (by rw [(hC.2.2.2.2 x hx).2.2])
    have wl : ∀ x, wt S x Q < 2 ^ 63 := fun x => by
      have := wt_lt S x Q
      have l48 : (2 : Nat) ^ (8 * Q) ≤ 2 ^ 48 := Nat.pow_le_pow_right (by decide) (by omega)
      omega
    rw [if_neg (nI_ge (by omega) (by omega)), e5 i hi, e5 j (by omega), e10 i hi, e10 j (by omega)]
    have t9 : ((if S (40 + 6 * nbf S H i + 1) = S (40 + 6 * nbf S H j + 1) then some 0 else some (nI (q0 S (nbf S H i))) >>= fun v20 => ldl (cB c6 9 sc) 6 v20 >>= fun v21 => some (nI (q0 S (nbf S H j))) >>= fun v22 => ldl (cB c6 9 sc) 6 v22 >>= fun v23 => if (lg_cmp v21 v23) = 0 then some 0 else some 1) : Option Int32) = some (if S (40 + 6 * nbf S H j + 1) = S (40 + 6 * nbf S H i + 1) ∨ sm S (q0 S (nbf S H j)) Q = sm S (q0 S (nbf S H i)) Q then 0 else 1) := by
      by_cases w1 : S (40 + 6 * nbf S H i + 1) = S (40 + 6 * nbf S H j + 1)
      · rw [if_pos w1, if_pos (Or.inl w1.symm)]
      · rw [if_neg w1]
        refine ob_mk rfl (ob_mk (e9 _ qi) (ob_mk rfl (ob_mk (e9 _ qj) ?_)))
        by_cases w2 : sm S (q0 S (nbf S H j)) Q = sm S (q0 S (nbf S H i)) Q
        · rw [if_pos (Or.inr w2), if_pos ((lg_cmp_eq _ _).mpr (by rw [(wt_sm S _ _ Q).mpr w2]))]
        · have w3 : ¬ (S (40 + 6 * nbf S H j + 1) = S (40 + 6 * nbf S H i + 1) ∨ sm S (q0 S (nbf S H j)) Q = sm S (q0 S (nbf S H i)) Q) := fun z => z.elim (fun e => w1 e.symm) w2
          rw [if_neg w3, if_neg (fun z => w2 ((wt_sm S _ _ Q).mp ((pk_lEQ (wl _) (wl _)).mp ((lg_cmp_eq _ _).mp z)).symm))]
    have r13 : F_59 c6 sc (nI (q0 S (nbf S H i))) (nI (q0 S (nbf S H j))) = some (bit1 (bs S (nI (q0 S (nbf S H j))) D) (nI (q0 S (nbf S H i)))) := (f_59 r6 qi hC).trans (by rw [bs_sym hS qi qj])
    refine ob_e rfl (ob_e rfl (ob_e t9 (ob_e rfl (ob_e rfl (ob_e r13 ?_)))))
    rw [nI_1]
    have fin : ((if bit1 (bs S (nI (q0 S (nbf S H j))) D) (nI (q0 S (nbf S H i))) = 0 then some (x + su (fun j => sw S D Q un (nbf S H j) (nbf S H i)) j) else if (if un then (1 : Int32) else 0) = 0 then some (x + su (fun j => sw S D Q un (nbf S H j) (nbf S H i)) j + 1) else if (if S (40 + 6 * nbf S H j + 1) = S (40 + 6 * nbf S H i + 1) ∨ sm S (q0 S (nbf S H j)) Q = sm S (q0 S (nbf S H i)) Q then (0 : Int32) else 1) = 0 then some (x + su (fun j => sw S D Q un (nbf S H j) (nbf S H i)) j + 1) else some (x + su (fun j => sw S D Q un (nbf S H j) (nbf S H i)) j)) : Option Int32) = some (x + su (fun j => sw S D Q un (nbf S H j) (nbf S H i)) (j + 1)) := by
      show _ = some (x + (su (fun j => sw S D Q un (nbf S H j) (nbf S H i)) j + sw S D Q un (nbf S H j) (nbf S H i)))
      rw [← Int32.add_assoc]
      obtain ⟨z0, hz0⟩ : ∃ z0, z0 = x + su (fun j => sw S D Q un (nbf S H j) (nbf S H i)) j := ⟨_, rfl⟩
      rw [← hz0]
      unfold sw
      by_cases y1 : bit1 (bs S (nI (q0 S (nbf S H j))) D) (nI (q0 S (nbf S H i))) = 0
      · rw [if_pos y1, if_pos y1, Int32.add_zero]
      · rw [if_neg y1, if_neg y1]
        cases un with
        | false => rw [if_pos (show (if false = true then (1 : Int32) else 0) = 0 from rfl), if_neg (fun z => by cases z.1)]
        | true =>
          rw [if_neg (show ¬ (if true = true then (1 : Int32) else 0) = 0 by decide)]
          by_cases y2 : S (40 + 6 * nbf S H j + 1) = S (40 + 6 * nbf S H i + 1) ∨ sm S (q0 S (nbf S H j)) Q = sm S (q0 S (nbf S H i)) Q
          · rw [if_pos y2, if_pos rfl, if_neg (fun z => y2.elim z.2.1 z.2.2)]
          · rw [if_neg y2, if_neg (by decide), if_pos ⟨rfl, fun e => y2 (Or.inl e), fun e => y2 (Or.inr e)⟩, Int32.add_zero]
    exact ob_e fin rfl
theorem gl_112a {un : Bool} {w : Nat} (hS : SR c1 c8 st S R D H Q M L E K) (hw : cR c9 0 w = sc) (hC : SC c6 sc S R D H Q) (hA : AT c6 sc S R H (q0 S)) : ∀ (m i : Nat), i + m = lc S H → G_112 c1 c6 c8 c9 w st 0 [(if un then 1 else 0), su (fun i => su (fun j => sw S D Q un (nbf S H j) (nbf S H i)) i) i, nI i] [] [] = some (su (fun i => su (fun j => sw S D Q un (nbf S H j) (nbf S H i)) i) (lc S H), c6)
  | 0, i, hi => by
    have : i = lc S H := by omega
    subst this
    have ll := lc_le S H
    have h6 := hS.1.1.2.2.1.2.2
    rw [G_112, hw]
    exact in_pos (by rw [hC.2.1]; exact nI_le (Nat.le_refl _) (by omega)) rfl
  | m + 1, i, hi => by
    have ih := gl_112a (un := un) hS hw hC hA m (i + 1) (by omega)
    have ll := lc_le S H
    have h6 := hS.1.1.2.2.1.2.2
    have b := gl_112b (un := un) hS hw hC hA (show i < lc S H by omega) i 0 (su (fun i => su (fun j => sw S D Q un (nbf S H j) (nbf S H i)) i) i) (by omega)
    rw [show su (fun j => sw S D Q un (nbf S H j) (nbf S H i)) 0 = 0 from rfl, Int32.add_zero] at b
    rw [G_112, hw]
    refine in_neg (by rw [hC.2.1]; exact nI_ge (by omega) (by omega)) ?_
    exact b.trans ih
/-- both sums are one -/
theorem sw_all {un : Bool} : su (fun i => su (fun j => sw S D Q un (nbf S H j) (nbf S H i)) i) (lc S H) = su (tr (sw2 S D Q un) H) H := by
  rw [← tri]
  have e1 : su (fun i => su (fun j => sw S D Q un (nbf S H j) (nbf S H i)) i) (lc S H) = su (fun i => (fun b => su (fun a => if lv S a = 0 then 0 else sw S D Q un a b) b) (nbf S H i)) (lc S H) := su_congr fun i hi => by
    obtain ⟨a1, a2, a3⟩ := nbf_ok (S := S) (n := H) hi
    dsimp only
    have := su_lc (S := S) (f := fun a => sw S D Q un a (nbf S H i)) (H := H) (n := nbf S H i) (by omega)
    rw [a3] at this
    exact this
  rw [e1, su_lc (S := S) (f := fun b => su (fun a => if lv S a = 0 then 0 else sw S D Q un a b) b) (H := H) (n := H) (Nat.le_refl _)]
  refine su_congr fun b hb => ?_
  by_cases q : lv S b = 0
  · rw [if_pos q]
    have e2 : su (fun a => sw2 S D Q un a b) b = su (fun _ => 0) b := su_congr fun a ha => by
      unfold sw2
      by_cases w : lv S a = 0
      · rw [if_pos w]
      · rw [if_neg w, if_pos q]
    exact (e2.trans (su_0 b)).symm
  · rw [if_neg q]
    refine su_congr fun a ha => ?_
    unfold sw2
    by_cases w : lv S a = 0
    · rw [if_pos w, if_pos w]
    · rw [if_neg w, if_neg w, if_neg q]
theorem gl_291b {un : Bool} {a : Nat} (hS : SR c1 c8 st (cA c12 20 B2) R D H Q M L E K) (ha : a < H) : ∀ (m b : Nat) (x : Int32), b + m = H → a < b → G_291 c12 B2 1 [(if un then 0 else 1), x + tr (sw2 (cA c12 20 B2) D Q un) b a, nI a, nI b] [] [] = G_291 c12 B2 0 [(if un then 0 else 1), x + tr (sw2 (cA c12 20 B2) D Q un) H a, nI (a + 1)] [] []
  | 0, b, x, hb, hab => by
    have : b = H := by omega
    subst this
    obtain ⟨-, -, ⟨-, hH, h6⟩, -⟩ := hS.1.1
    conv => lhs; rw [G_291]
    refine ob_e al_2 ?_
    rw [if_pos (by rw [hH]; exact nI_le (Nat.le_refl _) (by omega)), nI_1]
  | m + 1, b, x, hb, hab => by
    have ih := gl_291b (un := un) hS ha m (b + 1) x (by omega) (by omega)
    obtain ⟨⟨-, hR, r6⟩, ⟨-, hD, d10⟩, ⟨-, hH, h6⟩, ⟨-, hQ, q6⟩, -⟩ := hS.1.1
    have e0 : tr (sw2 (cA c12 20 B2) D Q un) (b + 1) a = tr (sw2 (cA c12 20 B2) D Q un) b a + sw2 (cA c12 20 B2) D Q un a b := by
      show su (fun b => if a < b then sw2 (cA c12 20 B2) D Q un a b else 0) b + (if a < b then sw2 (cA c12 20 B2) D Q un a b else 0) = _
      rw [if_pos hab]; rfl
    rw [e0, ← Int32.add_assoc] at ih
    obtain ⟨z0, hz0⟩ : ∃ z0, z0 = x + tr (sw2 (cA c12 20 B2) D Q un) b a := ⟨_, rfl⟩
    rw [← hz0] at ih ⊢
    rw [← ih]
    conv => lhs; rw [G_291]
    refine ob_e al_2 ?_
    rw [if_neg (by rw [hH]; exact nI_ge (by omega) (by omega))]
    refine ob_e (f_224 (by omega)) ?_
    rw [nI_1]
    by_cases q1 : lv (cA c12 20 B2) a = 0
    · rw [if_pos q1, show sw2 (cA c12 20 B2) D Q un a b = 0 by unfold sw2; rw [if_pos q1], Int32.add_zero]
    rw [if_neg q1]
    refine ob_e (f_224 (by omega)) ?_
    by_cases q2 : lv (cA c12 20 B2) b = 0
    · rw [if_pos q2, show sw2 (cA c12 20 B2) D Q un a b = 0 by unfold sw2; rw [if_neg q1, if_pos q2], Int32.add_zero]
    rw [if_neg q2, show sw2 (cA c12 20 B2) D Q un a b = sw (cA c12 20 B2) D Q un a b by unfold sw2; rw [if_neg q1, if_neg q2]]
    have at0 : ∀ h, h < H → ¬ lv (cA c12 20 B2) h = 0 → F_223 c12 B2 (nI h) 0 = some (nI (q0 (cA c12 20 B2) h)) := fun h hh hl => by
      obtain ⟨⟨x, hx, ex⟩, -⟩ := hS.1.2.2.2.2.2.2.2.1.2.1 h hh
      rw [show F_223 c12 B2 (nI h) 0 = some (cA c12 20 B2 (40 + 6 * h + 0)) from f_223 (w := 0) (by omega) (by decide)]
      unfold q0; rw [if_neg hl, ex, nI_clamp (by omega)]
    have s6 : ∀ r, sm (cA c12 20 B2) r Q < 2 ^ 31 := fun r => by
      have := sm_lt (cA c12 20 B2) r Q
      have l6 : (2 : Nat) ^ Q ≤ 2 ^ 6 := Nat.pow_le_pow_right (by decide) (by omega)
      omega
    refine ob_e (at0 a ha q1) (ob_e (f_232 hD d10) (ob_e (at0 b (by omega) q2) (ob_e (f_171 _ _) ?_)))
    by_cases y1 : bit1 (bs (cA c12 20 B2) (nI (q0 (cA c12 20 B2) a)) D) (nI (q0 (cA c12 20 B2) b)) = 0
    · rw [if_pos y1, show sw (cA c12 20 B2) D Q un a b = 0 by unfold sw; rw [if_pos y1], Int32.add_zero]
    rw [if_neg y1]
    refine ob_e (f_223 (w := 1) (by omega) (by decide)) (ob_e (f_223 (w := 1) (by omega) (by decide)) ?_)
    refine ob_e (v := if cA c12 20 B2 (40 + 6 * a + 1) = cA c12 20 B2 (40 + 6 * b + 1) ∨ sm (cA c12 20 B2) (q0 (cA c12 20 B2) a) Q = sm (cA c12 20 B2) (q0 (cA c12 20 B2) b) Q then 0 else 1) ?_ (ob_e (v := sw (cA c12 20 B2) D Q un a b) ?_ rfl)
    · by_cases w1 : cA c12 20 B2 (40 + 6 * a + 1) = cA c12 20 B2 (40 + 6 * b + 1)
      · rw [if_pos w1, if_pos (Or.inl w1)]
      · rw [if_neg w1]
        refine ob_mk (at0 a ha q1) (ob_mk (f_286 hQ q6) (ob_mk (at0 b (by omega) q2) (ob_mk (f_286 hQ q6) ?_)))
        by_cases w2 : sm (cA c12 20 B2) (q0 (cA c12 20 B2) a) Q = sm (cA c12 20 B2) (q0 (cA c12 20 B2) b) Q
        · rw [if_pos (Or.inr w2), if_pos (by rw [w2])]
        · have w3 : ¬ (cA c12 20 B2 (40 + 6 * a + 1) = cA c12 20 B2 (40 + 6 * b + 1) ∨ sm (cA c12 20 B2) (q0 (cA c12 20 B2) a) Q = sm (cA c12 20 B2) (q0 (cA c12 20 B2) b) Q) := fun z => z.elim w1 w2
          rw [if_neg w3, if_neg (fun e => w2 ((nI_eq (s6 _) (s6 _)).mp e))]
    · unfold sw
      rw [if_neg y1]
      cases un with
      | false =>
        have nf : ¬ (false = true ∧ ¬ cA c12 20 B2 (40 + 6 * a + 1) = cA c12 20 B2 (40 + 6 * b + 1) ∧ ¬ sm (cA c12 20 B2) (q0 (cA c12 20 B2) a) Q = sm (cA c12 20 B2) (q0 (cA c12 20 B2) b) Q) := fun z => Bool.noConfusion z.1
        rw [if_neg nf]; rfl
      | true =>
        rw [if_neg (show ¬ (if true = true then (0 : Int32) else 1) = 1 by decide)]
        by_cases y2 : cA c12 20 B2 (40 + 6 * a + 1) = cA c12 20 B2 (40 + 6 * b + 1) ∨ sm (cA c12 20 B2) (q0 (cA c12 20 B2) a) Q = sm (cA c12 20 B2) (q0 (cA c12 20 B2) b) Q
        · rw [if_pos y2, if_pos rfl, if_neg (fun z => y2.elim z.2.1 z.2.2)]
        · rw [if_neg y2, if_neg (by decide), if_pos ⟨rfl, fun e => y2 (Or.inl e), fun e => y2 (Or.inr e)⟩]
theorem gl_291a {un : Bool} (hS : SR c1 c8 st (cA c12 20 B2) R D H Q M L E K) : ∀ (m a : Nat), a + m = H → G_291 c12 B2 0 [(if un then 0 else 1), su (tr (sw2 (cA c12 20 B2) D Q un) H) a, nI a] [] [] = some (su (tr (sw2 (cA c12 20 B2) D Q un) H) H)
  | 0, a, hi => by
    have : a = H := by omega
    subst this
    obtain ⟨-, -, ⟨-, hH, h6⟩, -⟩ := hS.1.1
    rw [G_291]
    exact ob_mk al_2 (in_pos (by rw [hH]; exact nI_le (Nat.le_refl _) (by omega)) rfl)
  | m + 1, a, hi => by
    have ih := gl_291a (un := un) hS m (a + 1) (by omega)
    obtain ⟨-, -, ⟨-, hH, h6⟩, -⟩ := hS.1.1
    have b := gl_291b (un := un) hS (show a < H by omega) (H - (a + 1)) (a + 1) (su (tr (sw2 (cA c12 20 B2) D Q un) H) a) (by omega) (by omega)
    have e1 : tr (sw2 (cA c12 20 B2) D Q un) (a + 1) a = 0 := by
      have : su (fun b => if a < b then sw2 (cA c12 20 B2) D Q un a b else 0) (a + 1) = su (fun _ => 0) (a + 1) := su_congr (fun b hb => if_neg (Nat.not_lt.mpr (by omega)))
      exact this.trans (su_0 (a + 1))
    rw [e1, Int32.add_zero] at b
    rw [G_291]
    refine ob_mk al_2 (in_neg (by rw [hH]; exact nI_ge (by omega) (by omega)) ?_)
    rw [nI_1]
    exact b.trans ih
theorem q_swaps {p1 : Int32} (h : WM c1 c8 c10 c12 B2 (cR c11 7 B) A X R D H Q L K) : ∃ rx rm, F_150 c1 c6 c8 c9 c10 c11 B p1 = some rx ∧ F_291 c12 B2 p1 = some rm ∧ rx.1 = rm ∧ Kp [0, 1, 2, 3, 4, 5, 6, 7, 8, 9, 10, 11] c6 rx.2 ∧ Oth (cR c9 0 (cR c11 14 B)) c6 rx.2 := by
  obtain ⟨U, hU, a1, a2, a3, ⟨M, E, m9, s⟩, -⟩ := id h
  have s' := s
  rw [← a1] at s'
  have hN := s'.1.1
  have e1 : F_170 p1.toInt64 0 1 = some (if p1 < 0 then 0 else if 1 < p1 then 0 else 1) := f_170 p1 0 1
  unfold F_150 F_291
  by_cases q : hh1 R = 0
  · exact ⟨_, _, ob_mk (f_157 hN) (in_pos q rfl), ob_mk (f_218 hN) (in_pos q rfl), rfl, kp_rf _ _, oth_rf _ _⟩
  by_cases w1 : p1 < 0
  · rw [if_pos w1] at e1
    exact ⟨_, _, ob_mk (f_157 hN) (in_neg q (in_pos w1 rfl)), ob_mk (f_218 hN) (in_neg q (ob_mk e1 (in_pos rfl rfl))), rfl, kp_rf _ _, oth_rf _ _⟩
  rw [if_neg w1] at e1
  by_cases w2 : 1 < p1
  · rw [if_pos w2] at e1
    exact ⟨_, _, ob_mk (f_157 hN) (in_neg q (in_neg w1 (in_neg (Int32.not_le.mpr w2) rfl))), ob_mk (f_218 hN) (in_neg q (ob_mk e1 (in_pos rfl rfl))), rfl, kp_rf _ _, oth_rf _ _⟩
  rw [if_neg w2] at e1
  obtain ⟨k, hk, rfl⟩ := nI_of2 (M := 1) (n := 1) rfl w1 (Int32.not_lt.mp w2)
  obtain ⟨un, hun⟩ : ∃ un : Bool, (if un then (0 : Int32) else 1) = nI k ∧ ((if nI k = 0 then some 1 else some 0) : Option Int32) = some (if un then 1 else 0) := by
    rcases (show k = 0 ∨ k = 1 by omega) with rfl | rfl
    · exact ⟨true, rfl, rfl⟩
    · exact ⟨false, rfl, rfl⟩
  obtain ⟨c6', t1, t2, t3, t4, t5, t6⟩ := take_ok (c6 := c6) (sc := cR c9 0 (cR c11 14 B)) s'
  have g1 := gl_112a (un := un) (w := cR c11 14 B) (c9 := c9) s' rfl t4 t5 (lc (cA c12 20 B2) H) 0 (by omega)
  have g2 := gl_291a (un := un) s' H 0 (by omega)
  rw [sw_all] at g1
  rw [hun.1] at g2
  refine ⟨(su (tr (sw2 (cA c12 20 B2) D Q un) H) H, c6'), _, ob_mk (f_157 hN) (in_neg q (in_neg w1 (in_pos (Int32.not_lt.mp w2) (ob_mk hun.2 (ob_mk (v := (su (tr (sw2 (cA c12 20 B2) D Q un) H) H, c6')) ?_ rfl))))), ob_mk (f_218 hN) (in_neg q (ob_mk e1 (in_neg (by decide) g2))), rfl, t2, t3⟩
  unfold F_112
  exact ob_mk t1 g1
end Swaps
