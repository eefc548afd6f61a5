/-! ===== all ways in which heads go or stay at once ===== -/
theorem cd_lex {b : Nat} {p q : Nat → Nat} {i : Nat} (hj : ∀ j, j < i → p j = q j) (h : p i < q i) : ∀ {n : Nat}, i < n → (∀ j, j < n → p j < b) → cd b p n < cd b q n
  | 0, hi, _ => absurd hi (Nat.not_lt_zero _)
  | n + 1, hi, hp => by
    show cd b p n * b + p n < cd b q n * b + q n
    by_cases w : i = n
    · subst w
      rw [cd_cg hj]; omega
    · have ih := cd_lex (b := b) hj h (n := n) (by omega) (fun j z => hp j (by omega))
      have := hp n (by omega)
      have m : (cd b p n + 1) * b ≤ cd b q n * b := Nat.mul_le_mul_right b ih
      rw [Nat.add_mul] at m
      omega
theorem cd_first {b : Nat} {p q : Nat → Nat} : ∀ {n : Nat}, (∀ j, j < n → p j < b) → (∀ j, j < n → q j < b) → cd b p n < cd b q n → ∃ i, i < n ∧ (∀ j, j < i → p j = q j) ∧ p i < q i
  | 0, _, _, h => absurd h (Nat.lt_irrefl _)
  | n + 1, hp, hq, h => by
    have h' : cd b p n * b + p n < cd b q n * b + q n := h
    have a := hp n (by omega)
    have c := hq n (by omega)
    rcases Nat.lt_trichotomy (cd b p n) (cd b q n) with w | w | w
    · obtain ⟨i, hi, h1, h2⟩ := cd_first (fun j z => hp j (by omega)) (fun j z => hq j (by omega)) w
      exact ⟨i, by omega, h1, h2⟩
    · exact ⟨n, Nat.lt_succ_self _, fun j z => cd_inj (fun j z => hp j (by omega)) (fun j z => hq j (by omega)) w j z, by rw [w] at h'; omega⟩
    · have m : (cd b q n + 1) * b ≤ cd b p n * b := Nat.mul_le_mul_right b w
      rw [Nat.add_mul] at m
      omega
section Cross
variable {S : Nat → Int32} {R D H Q : Nat}
/-- the reference's numbers come in the same order -/
theorem ph_mono (hR : 0 < R) (r6 : R ≤ 6) (h6 : H ≤ 6) {s t : Nat} (hs : s < R ^ lc S H) (ht : t < R ^ lc S H) (h : s < t) : ph S R H s < ph S R H t := by
  have e1 : cd R (fun i => qs S R H s (nbf S H i)) (lc S H) = s := kc_qs hR hs
  have e2 : cd R (fun i => qs S R H t (nbf S H i)) (lc S H) = t := kc_qs hR ht
  rw [← e1, ← e2] at h
  obtain ⟨i, hi, h1, h2⟩ := cd_first (fun j z => by obtain ⟨a, b, -⟩ := nbf_ok z; exact qs_ok hR s _ a b) (fun j z => by obtain ⟨a, b, -⟩ := nbf_ok z; exact qs_ok hR t _ a b) h
  obtain ⟨a, b, c⟩ := nbf_ok hi
  refine cd_lex (i := nbf S H i) (fun k hk => ?_) ?_ (by omega) (qx_lt (qs_ok hR s) r6)
  · by_cases w : lv S k = 0
    · unfold qx; rw [if_pos w, if_pos w]
    · have hk' : k < H := by omega
      rw [qx_l hk' w, qx_l hk' w]
      have l := lc_lt hk w
      have := h1 (lc S k) (by omega)
      rw [nbf_lc hk' w] at this
      exact this
  · rw [qx_l a b, qx_l a b]; exact h2
/-- how many go -/
def gn (S : Nat → Int32) (H : Nat) (a q : Nat → Nat) : Nat := sn (fun h => if lv S h = 0 then 0 else if q h = a h then 0 else 1) H
/-- whether one may go so, or stay -/
def okh (S : Nat → Int32) (D : Nat) (a : Nat → Nat) (th : Bool) (mo aim h r : Nat) : Bool := if r = a h then (th || decide (h ≠ mo)) else (decide (¬ bit1 (bs S (nI (a h)) D) (nI r) = 0) && (th || decide (h ≠ mo) || decide (r = aim)))
def adm (S : Nat → Int32) (R D H : Nat) (a : Nat → Nat) (th : Bool) (mo aim s : Nat) : Prop := ∀ h, h < H → ¬ lv S h = 0 → okh S D a th mo aim h (qs S R H s h) = true
theorem gn_le {a q : Nat → Nat} : gn S H a q ≤ H := by
  have := sn_le (f := fun h => if lv S h = 0 then 0 else if q h = a h then 0 else 1) (g := fun _ => 1) (n := H) (fun h _ => by
    show (if lv S h = 0 then 0 else if q h = a h then 0 else 1) ≤ 1
    split <;> (try split) <;> omega)
  rw [sn_k, Nat.mul_one] at this
  exact this
theorem gn_cg {a q q' : Nat → Nat} (h : ∀ k, k < H → ¬ lv S k = 0 → q k = q' k) : gn S H a q = gn S H a q' := sn_cg fun k hk => by
  by_cases w : lv S k = 0
  · rw [if_pos w, if_pos w]
  · rw [if_neg w, if_neg w, h k hk w]
theorem gn_mv {a q : Nat → Nat} {h r : Nat} (hh : h < H) (hl : ¬ lv S h = 0) (hq : q h = a h) (hr : r ≠ a h) : gn S H a (mv q h r) = gn S H a q + 1 := by
  have up := sn_up (f := fun k => if lv S k = 0 then 0 else if q k = a k then 0 else 1) (i := h) (v := 1) hh
  rw [if_neg hl, if_pos hq] at up
  refine Eq.trans (sn_cg fun k _ => ?_) up
  unfold mv
  by_cases w : k = h
  · subst w; rw [if_neg hl, if_pos rfl, if_neg hr, if_pos rfl]
  · rw [if_neg w, if_neg w]
theorem mv_id {q : Nat → Nat} {h r : Nat} (e : r = q h) : mv q h r = q := by
  funext k; unfold mv
  by_cases w : k = h
  · rw [if_pos w, w, e]
  · rw [if_neg w]
theorem se_cg {q q' : Nat → Nat} (h : ∀ k, k < H → ¬ lv S k = 0 → q k = q' k) : se S H Q q = se S H Q q' := sn_cg fun k hk => by
  by_cases w : lv S k = 0
  · rw [if_pos w, if_pos w]
  · rw [if_neg w, if_neg w, h k hk w]
theorem se_mv {q : Nat → Nat} {h r : Nat} (hh : h < H) (hl : ¬ lv S h = 0) : se S H Q (mv q h r) + hv S h * wt S (q h) Q = se S H Q q + hv S h * wt S r Q := by
  have up := sn_up (f := fun k => if lv S k = 0 then 0 else hv S k * wt S (q k) Q) (i := h) (v := hv S h * wt S r Q) hh
  rw [if_neg hl] at up
  have e : se S H Q (mv q h r) = sn (fun j => if j = h then hv S h * wt S r Q else if lv S j = 0 then 0 else hv S j * wt S (q j) Q) H := sn_cg fun k _ => by
    unfold mv
    by_cases w : k = h
    · subst w; rw [if_neg hl, if_pos rfl, if_pos rfl]
    · rw [if_neg w, if_neg w]
  rw [e]; exact up
variable {α : Type} (S R D H) (a : Nat → Nat) (th : Bool) (mo aim : Nat) (en : α → Bool) (lf : (Nat → Nat) → α → α)
/-- one room after the other -/
def rwb (q : Nat → Nat) (h : Nat) (g : (Nat → Nat) → α → α) : Nat → α → α
  | 0, x => x
  | r + 1, x => if en (rwb q h g r x) = true then rwb q h g r x else if okh S D a th mo aim h r = true then g (mv q h r) (rwb q h g r x) else rwb q h g r x
/-- the heads from one on -/
def blk : Nat → (Nat → Nat) → α → α
  | 0, q, x => lf q x
  | m + 1, q, x => rwb S D a th mo aim en q (nbf S H (lc S H - 1 - m)) (fun q' x' => blk m q' x') R x
/-- one situation after the other -/
noncomputable def fo (x0 : α) : Nat → α
  | 0 => x0
  | s + 1 => if en (fo x0 s) = true then fo x0 s else @ite α (adm S R D H a th mo aim s) (Classical.propDecidable _) (lf (qs S R H s) (fo x0 s)) (fo x0 s)
end Cross
section Cross2
variable {S : Nat → Int32} {R D H Q : Nat} {α : Type} {a : Nat → Nat} {th : Bool} {mo aim : Nat} {en : α → Bool} {lf : (Nat → Nat) → α → α} {x0 : α}
theorem fo_skip {s t : Nat} : ∀ {m : Nat}, t = s + m → (∀ k, s ≤ k → k < t → ¬ adm S R D H a th mo aim k) → fo S R D H a th mo aim en lf x0 t = fo S R D H a th mo aim en lf x0 s
  | 0, e, _ => by rw [e]; rfl
  | m + 1, e, h => by
    subst e
    have ih := fo_skip (t := s + m) (m := m) rfl (fun k h1 h2 => h k h1 (by omega))
    show (if en (fo S R D H a th mo aim en lf x0 (s + m)) = true then fo S R D H a th mo aim en lf x0 (s + m) else @ite α (adm S R D H a th mo aim (s + m)) (Classical.propDecidable _) (lf (qs S R H (s + m)) (fo S R D H a th mo aim en lf x0 (s + m))) (fo S R D H a th mo aim en lf x0 (s + m))) = _
    rw [ih, if_neg (h (s + m) (by omega) (by omega))]
    split <;> rfl
theorem fo_end {s t : Nat} (h : en (fo S R D H a th mo aim en lf x0 s) = true) : ∀ {m : Nat}, t = s + m → fo S R D H a th mo aim en lf x0 t = fo S R D H a th mo aim en lf x0 s
  | 0, e => by rw [e]; rfl
  | m + 1, e => by
    subst e
    have ih := fo_end h (t := s + m) (m := m) rfl
    show (if en (fo S R D H a th mo aim en lf x0 (s + m)) = true then fo S R D H a th mo aim en lf x0 (s + m) else _) = _
    rw [ih, if_pos h]
/-- a digit of a number in a block -/
theorem blk_dg {i m c r j : Nat} (hR : 0 < R) (hj : j < R ^ m) (hr : r < R) : (c * R ^ (m + 1) + r * R ^ m + j) / R ^ m % R = r := by
  have p := Nat.pow_pos (n := m) hR
  have e : c * R ^ (m + 1) + r * R ^ m + j = j + (c * R + r) * R ^ m := by rw [Nat.pow_succ, Nat.add_mul, Nat.mul_assoc, Nat.mul_comm R]; omega
  rw [e, Nat.add_mul_div_right _ _ p, Nat.div_eq_of_lt hj, Nat.zero_add, Nat.mul_comm, Nat.mul_add_mod, Nat.mod_eq_of_lt hr]
/-- blocks are what comes one after the other -/
theorem blk_fo (hR : 0 < R) (lfc : ∀ q q' x, (∀ k, k < H → ¬ lv S k = 0 → q k = q' k) → lf q x = lf q' x) : ∀ (m i : Nat) (q : Nat → Nat), i + m = lc S H → Qok S R H q → (∀ j, j < i → okh S D a th mo aim (nbf S H j) (q (nbf S H j)) = true) → en (fo S R D H a th mo aim en lf x0 (cd R (fun i => q (nbf S H i)) i * R ^ m)) = false → blk S R D H a th mo aim en lf m q (fo S R D H a th mo aim en lf x0 (cd R (fun i => q (nbf S H i)) i * R ^ m)) = fo S R D H a th mo aim en lf x0 (cd R (fun i => q (nbf S H i)) i * R ^ m + R ^ m)
  | 0, i, q, hi, hq, ho, he => by
    have : i = lc S H := by omega
    subst this
    rw [Nat.pow_zero, Nat.mul_one] at he ⊢
    have ea : adm S R D H a th mo aim (kc S R H q) := fun h hh hl => by
      rw [qs_kc hR hq hh hl]
      have := ho (lc S h) (lc_lt hh hl)
      rw [nbf_lc hh hl] at this
      exact this
    show lf q (fo S R D H a th mo aim en lf x0 (kc S R H q)) = (if en (fo S R D H a th mo aim en lf x0 (kc S R H q)) = true then fo S R D H a th mo aim en lf x0 (kc S R H q) else @ite α (adm S R D H a th mo aim (kc S R H q)) (Classical.propDecidable _) (lf (qs S R H (kc S R H q)) (fo S R D H a th mo aim en lf x0 (kc S R H q))) (fo S R D H a th mo aim en lf x0 (kc S R H q)))
    have he' : en (fo S R D H a th mo aim en lf x0 (kc S R H q)) = false := he
    rw [if_neg (by rw [he']; decide), if_pos ea]
    exact lfc _ _ _ (fun k hk hl => (qs_kc hR hq hk hl).symm)
  | m + 1, i, q, hi, hq, ho, he => by
    have ei : lc S H - 1 - m = i := by omega
    obtain ⟨b1, b2, b3⟩ := nbf_ok (S := S) (n := H) (i := i) (by omega)
    obtain ⟨h, eh⟩ : ∃ h, h = nbf S H i := ⟨_, rfl⟩
    obtain ⟨c, ec⟩ : ∃ c, c = cd R (fun i => q (nbf S H i)) i := ⟨_, rfl⟩
    have p := Nat.pow_pos (n := m) hR
    rw [← ec] at he ⊢
    show rwb S D a th mo aim en q (nbf S H (lc S H - 1 - m)) (fun q' x' => blk S R D H a th mo aim en lf m q' x') R _ = _
    rw [ei, ← eh]
    have key : ∀ r, r ≤ R → rwb S D a th mo aim en q h (fun q' x' => blk S R D H a th mo aim en lf m q' x') r (fo S R D H a th mo aim en lf x0 (c * R ^ (m + 1))) = fo S R D H a th mo aim en lf x0 (c * R ^ (m + 1) + r * R ^ m) := fun r => by
      induction r with
      | zero => intro _; rw [Nat.zero_mul, Nat.add_zero]; rfl
      | succ r ih =>
        intro hr
        have ih := ih (by omega)
        have e1 : c * R ^ (m + 1) + (r + 1) * R ^ m = c * R ^ (m + 1) + r * R ^ m + R ^ m := by rw [Nat.add_mul, Nat.one_mul, Nat.add_assoc]
        show (if en (rwb S D a th mo aim en q h (fun q' x' => blk S R D H a th mo aim en lf m q' x') r (fo S R D H a th mo aim en lf x0 (c * R ^ (m + 1)))) = true then _ else _) = _
        rw [ih, e1]
        by_cases w : en (fo S R D H a th mo aim en lf x0 (c * R ^ (m + 1) + r * R ^ m)) = true
        · rw [if_pos w]; exact (fo_end w (m := R ^ m) rfl).symm
        · rw [if_neg w]
          have w' : en (fo S R D H a th mo aim en lf x0 (c * R ^ (m + 1) + r * R ^ m)) = false := by
            cases e : en (fo S R D H a th mo aim en lf x0 (c * R ^ (m + 1) + r * R ^ m)) with
            | false => rfl
            | true => exact absurd e w
          by_cases y : okh S D a th mo aim h r = true
          · rw [if_pos y]
            have ed : ∀ j, j < i → mv q h r (nbf S H j) = q (nbf S H j) := fun j hj => by
              unfold mv
              rw [if_neg (fun z => by
                have := (nbf_ok (S := S) (n := H) (i := j) (by omega)).2.2
                rw [z, eh, b3] at this
                omega)]
            have ec' : cd R (fun i => mv q h r (nbf S H i)) (i + 1) = c * R + r := by
              show cd R (fun i => mv q h r (nbf S H i)) i * R + mv q h r (nbf S H i) = _
              rw [cd_cg (q := fun i => q (nbf S H i)) ed, ← ec, ← eh]
              unfold mv; rw [if_pos rfl]
            have ep : (c * R + r) * R ^ m = c * R ^ (m + 1) + r * R ^ m := by rw [Nat.add_mul, Nat.pow_succ, Nat.mul_assoc, Nat.mul_comm R]
            have g := blk_fo hR lfc m (i + 1) (mv q h r) (by omega) (mv_ok hq (by omega)) (fun j hj => by
              by_cases z : j = i
              · subst z
                rw [← eh]
                show okh S D a th mo aim h (mv q h r h) = true
                unfold mv; rw [if_pos rfl]; exact y
              · rw [ed j (by omega)]; exact ho j (by omega)) (by rw [ec', ep]; exact w')
            rw [ec', ep] at g
            exact g
          · rw [if_neg y]
            refine (fo_skip (m := R ^ m) rfl (fun k h1 h2 ha => y ?_)).symm
            have hk := ha h (by rw [eh]; exact b1) (by rw [eh]; exact b2)
            have dgk : qs S R H k h = r := by
              unfold qs
              rw [if_pos (by rw [eh]; exact b1), if_neg (by rw [eh]; exact b2), eh, b3]
              unfold dg
              rw [show lc S H - 1 - i = m by omega]
              have := blk_dg (i := i) (m := m) (c := c) (r := r) (j := k - (c * R ^ (m + 1) + r * R ^ m)) hR (by omega) (by omega)
              rw [show c * R ^ (m + 1) + r * R ^ m + (k - (c * R ^ (m + 1) + r * R ^ m)) = k by omega] at this
              exact this
            rw [dgk] at hk
            exact hk
    have := key R (Nat.le_refl _)
    rw [this]
    congr 1
    rw [Nat.pow_succ, Nat.mul_comm (R ^ m)]
/-- more go than may: nothing comes of it -/
theorem blk_no {mg : α → Nat} (ln : ∀ q x, mg x < gn S H a q → lf q x = x) {x : α} : ∀ (m i : Nat) (q : Nat → Nat), i + m = lc S H → (∀ h, h < H → ¬ lv S h = 0 → i ≤ lc S h → q h = a h) → mg x < gn S H a q → blk S R D H a th mo aim en lf m q x = x
  | 0, i, q, hi, hq, hg => ln q x hg
  | m + 1, i, q, hi, hq, hg => by
    have ei : lc S H - 1 - m = i := by omega
    obtain ⟨b1, b2, b3⟩ := nbf_ok (S := S) (n := H) (i := i) (by omega)
    show rwb S D a th mo aim en q (nbf S H (lc S H - 1 - m)) (fun q' x' => blk S R D H a th mo aim en lf m q' x') R x = x
    rw [ei]
    have key : ∀ r, rwb S D a th mo aim en q (nbf S H i) (fun q' x' => blk S R D H a th mo aim en lf m q' x') r x = x := fun r => by
      induction r with
      | zero => rfl
      | succ r ih =>
        show (if en (rwb S D a th mo aim en q (nbf S H i) (fun q' x' => blk S R D H a th mo aim en lf m q' x') r x) = true then _ else _) = x
        rw [ih]
        split
        · rfl
        · split
          · have q0' := hq _ b1 b2 (by omega)
            refine blk_no ln m (i + 1) _ (by omega) (fun h hh hl hle => ?_) ?_
            · unfold mv
              rw [if_neg (fun z => by rw [z, b3] at hle; omega)]
              exact hq h hh hl (by omega)
            · by_cases z : r = a (nbf S H i)
              · rw [mv_id (by rw [q0', z])]; exact hg
              · rw [gn_mv b1 b2 q0' z]; omega
          · rfl
    exact key R
end Cross2
