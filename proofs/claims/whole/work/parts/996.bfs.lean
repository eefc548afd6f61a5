/-! ===== situations one after the other, with the first going by which each came ===== -/
abbrev Bq : Type := Nat × (Nat → Nat) × (Nat → Nat) × (Nat → Nat)
def bn (σ : Bq) : Nat := σ.1
def bu (σ : Bq) : Nat → Nat := σ.2.1
/-- how far, and one more; 0: not come -/
def bfr (σ : Bq) : Nat → Nat := σ.2.2.1
def bb (σ : Bq) : Nat → Nat := σ.2.2.2
def un (f : Nat → Nat) (k x : Nat) : Nat → Nat := fun j => if j = k then x else f j
theorem un_s {f : Nat → Nat} {k x : Nat} : un f k x k = x := if_pos rfl
theorem un_n {f : Nat → Nat} {k x j : Nat} (h : j ≠ k) : un f k x j = f j := if_neg h
/-- the first going of what comes next -/
def bg1 (σ : Bq) (k h r : Nat) : Nat := if bfr σ (bu σ k) = 1 then 6 * h + r else bb σ (bu σ k)
def st1 (S : Nat → Int32) (R D H k h r : Nat) (σ : Bq) : Bq := if cx S H D (qs S R H (bu σ k)) h r = 0 then σ else if bfr σ (tg S R H (bu σ k) h r) = 0 then (bn σ + 1, un (bu σ) (bn σ) (tg S R H (bu σ k) h r), un (bfr σ) (tg S R H (bu σ k) h r) (bfr σ (bu σ k) + 1), un (bb σ) (tg S R H (bu σ k) h r) (bg1 σ k h r)) else σ
def brow (S : Nat → Int32) (R D H k h : Nat) (σ : Bq) : Nat → Bq
  | 0 => σ
  | r + 1 => st1 S R D H k h r (brow S R D H k h σ r)
def bex (S : Nat → Int32) (R D H k : Nat) (σ : Bq) : Nat → Bq
  | 0 => σ
  | h + 1 => if lv S h = 0 then bex S R D H k σ h else brow S R D H k h (bex S R D H k σ h) R
def bst (S : Nat → Int32) (R D H : Nat) : Nat → Bq
  | 0 => (1, fun _ => kc S R H (q0 S), fun s => if s = kc S R H (q0 S) then 1 else 0, fun _ => 0)
  | k + 1 => if k < bn (bst S R D H k) then bex S R D H k (bst S R D H k) H else bst S R D H k
/-- a list without repeats of those that are marked -/
def UQ (N : Nat) (f : Nat → Nat) (n : Nat) (u : Nat → Nat) : Prop := (∀ j, j < n → u j < N ∧ f (u j) ≠ 0) ∧ (∀ i j, i < n → j < n → u i = u j → i = j) ∧ (∀ s, s < N → f s ≠ 0 → ∃ j, j < n ∧ u j = s)
theorem uq_cnt {N n : Nat} {f u : Nat → Nat} (h : UQ N f n u) : n = sn (fun s => if f s = 0 then 0 else 1) N := by
  obtain ⟨e, g, i⟩ := h
  rw [inj_sum (N := n) (φ := u) g (fun j hj => (e j hj).1) (fun s hs z => i s hs (fun q => z (if_pos q)))]
  rw [sn_cg (g := fun _ => 1) (fun j hj => if_neg (e j hj).2), sn_k, Nat.mul_one]
theorem uq_n {N n : Nat} {f u : Nat → Nat} (h : UQ N f n u) : n ≤ N := by
  have := uq_cnt h
  have l := sn_le (f := fun s => if f s = 0 then 0 else 1) (g := fun _ => 1) (n := N) (fun i _ => by show (if f i = 0 then 0 else 1) ≤ 1; split <;> omega)
  rw [sn_k, Nat.mul_one] at l
  omega
theorem uq_lt {N n : Nat} {f u : Nat → Nat} (h : UQ N f n u) {s : Nat} (hs : s < N) (hz : f s = 0) : n < N := by
  have e := uq_cnt h
  have up := sn_up (f := fun s => if f s = 0 then 0 else 1) (i := s) (v := 1) hs
  rw [if_pos hz] at up
  have l := sn_le (f := fun j => if j = s then 1 else if f j = 0 then 0 else 1) (g := fun _ => 1) (n := N) (fun i _ => by show (if i = s then 1 else if f i = 0 then 0 else 1) ≤ 1; split <;> (try split) <;> omega)
  rw [sn_k, Nat.mul_one] at l
  omega
theorem uq_app {N n : Nat} {f u : Nat → Nat} (h : UQ N f n u) {t v : Nat} (ht : t < N) (hz : f t = 0) (hv : v ≠ 0) : UQ N (un f t v) (n + 1) (un u n t) := by
  obtain ⟨e, g, i⟩ := h
  have ns : ∀ k, k < n → u k ≠ t := fun k hk w => (e k hk).2 (by rw [w]; exact hz)
  refine ⟨fun j hj => ?_, fun a b ha hb z => ?_, fun s hs z => ?_⟩
  · by_cases w : j = n
    · subst w; rw [un_s, un_s]; exact ⟨ht, hv⟩
    · rw [un_n w, un_n (ns j (by omega))]; exact e j (by omega)
  · by_cases w : a = n
    · by_cases w2 : b = n
      · omega
      · rw [w, un_s, un_n w2] at z; exact absurd z.symm (ns b (by omega))
    · by_cases w2 : b = n
      · rw [w2, un_s, un_n w] at z; exact absurd z (ns a (by omega))
      · rw [un_n w, un_n w2] at z; exact g a b (by omega) (by omega) z
  · by_cases w : s = t
    · exact ⟨n, Nat.lt_succ_self _, by rw [un_s, w]⟩
    · rw [un_n w] at z
      obtain ⟨j, hj, ej⟩ := i s hs z
      exact ⟨j, by omega, by rw [un_n (by omega)]; exact ej⟩
section Bfs
variable {S : Nat → Int32} {R D H : Nat}
/-- how far and by which first going, in one number -/
def bk (σ : Bq) (s : Nat) : Nat := bfr σ s * 64 + bb σ s
def kev (σ : Bq) (k h r : Nat) : Nat := (bfr σ (bu σ k) + 1) * 64 + bg1 σ k h r
/-- what holds all the time -/
def BI (S : Nat → Int32) (R H : Nat) (σ : Bq) (K : Nat) : Prop := UQ (R ^ lc S H) (bfr σ) (bn σ) (bu σ) ∧ (0 < bn σ ∧ bu σ 0 = kc S R H (q0 S) ∧ bfr σ (bu σ 0) = 1) ∧ (∀ j, j < bn σ → bfr σ (bu σ j) ≤ bn σ ∧ bb σ (bu σ j) < 64) ∧ (∀ j, 0 < j → j < bn σ → 2 ≤ bfr σ (bu σ j) ∧ bb σ (bu σ j) / 6 < H ∧ ¬ lv S (bb σ (bu σ j) / 6) = 0 ∧ bb σ (bu σ j) % 6 < R) ∧ (∀ i j, i ≤ j → j < bn σ → bk σ (bu σ i) ≤ bk σ (bu σ j)) ∧ (∀ j, j < bn σ → bk σ (bu σ j) ≤ K)
theorem bi_wk {σ : Bq} {K K' : Nat} (h : BI S R H σ K) (hk : K ≤ K') : BI S R H σ K' := ⟨h.1, h.2.1, h.2.2.1, h.2.2.2.1, h.2.2.2.2.1, fun j hj => Nat.le_trans (h.2.2.2.2.2 j hj) hk⟩
/-- a step leaves what was -/
def BX (σ τ : Bq) : Prop := bn σ ≤ bn τ ∧ (∀ j, j < bn σ → bu τ j = bu σ j) ∧ (∀ j, j < bn σ → bfr τ (bu σ j) = bfr σ (bu σ j) ∧ bb τ (bu σ j) = bb σ (bu σ j))
theorem bx_rf (σ : Bq) : BX σ σ := ⟨Nat.le_refl _, fun _ _ => rfl, fun _ _ => ⟨rfl, rfl⟩⟩
theorem bx_tr {σ τ υ : Bq} (h : BX σ τ) (h' : BX τ υ) : BX σ υ := ⟨Nat.le_trans h.1 h'.1, fun j hj => (h'.2.1 j (Nat.lt_of_lt_of_le hj h.1)).trans (h.2.1 j hj), fun j hj => by
  have e := h.2.1 j hj
  have g := h'.2.2 j (Nat.lt_of_lt_of_le hj h.1)
  rw [e] at g
  exact ⟨g.1.trans (h.2.2 j hj).1, g.2.trans (h.2.2 j hj).2⟩⟩
theorem bx_g {σ τ : Bq} {k h r : Nat} (hx : BX σ τ) (hk : k < bn σ) : bg1 τ k h r = bg1 σ k h r ∧ kev τ k h r = kev σ k h r := by
  have e : bg1 τ k h r = bg1 σ k h r := by
    unfold bg1
    rw [hx.2.1 k hk, (hx.2.2 k hk).1, (hx.2.2 k hk).2]
  refine ⟨e, ?_⟩
  unfold kev
  rw [e, hx.2.1 k hk, (hx.2.2 k hk).1]
theorem st1_ok {σ : Bq} {K k h r : Nat} (hR : 0 < R) (r6 : R ≤ 6) (h6 : H ≤ 6) (hi : BI S R H σ K) (hk : k < bn σ) (hh : h < H) (hl : ¬ lv S h = 0) (hr : r < R) (hK : K ≤ kev σ k h r) : BI S R H (st1 S R D H k h r σ) (kev σ k h r) ∧ BX σ (st1 S R D H k h r σ) := by
  obtain ⟨hu, ⟨n0, e0, f0⟩, hb, h2, hm, hx⟩ := id hi
  unfold st1
  split
  · exact ⟨bi_wk hi hK, bx_rf _⟩
  · split
    · rename_i hz
      obtain ⟨t, et⟩ : ∃ t, t = tg S R H (bu σ k) h r := ⟨_, rfl⟩
      rw [← et] at hz ⊢
      have ht : t < R ^ lc S H := by rw [et]; exact tg_lt hR hr
      have ns : ∀ j, j < bn σ → bu σ j ≠ t := fun j hj w => (hu.1 j hj).2 (by rw [w]; exact hz)
      obtain ⟨τ, eτ⟩ : ∃ τ : Bq, τ = (bn σ + 1, un (bu σ) (bn σ) t, un (bfr σ) t (bfr σ (bu σ k) + 1), un (bb σ) t (bg1 σ k h r)) := ⟨_, rfl⟩
      rw [← eτ]
      have t1 : bn τ = bn σ + 1 := by rw [eτ]; rfl
      have t2 : bu τ = un (bu σ) (bn σ) t := by rw [eτ]; rfl
      have t3 : bfr τ = un (bfr σ) t (bfr σ (bu σ k) + 1) := by rw [eτ]; rfl
      have t4 : bb τ = un (bb σ) t (bg1 σ k h r) := by rw [eτ]; rfl
      have bx : BX σ τ := ⟨by omega, fun j hj => by rw [t2, un_n (by omega)], fun j hj => by rw [t3, t4, un_n (ns j hj), un_n (ns j hj)]; exact ⟨rfl, rfl⟩⟩
      have g64 : bg1 σ k h r < 64 := by
        unfold bg1
        split
        · omega
        · exact (hb k hk).2
      have kn : bk τ t = kev σ k h r := by unfold bk kev; rw [t3, t4, un_s, un_s]
      have ko : ∀ j, j < bn σ → bk τ (bu τ j) = bk σ (bu σ j) := fun j hj => by unfold bk; rw [bx.2.1 j hj, (bx.2.2 j hj).1, (bx.2.2 j hj).2]
      have un' : bu τ (bn σ) = t := by rw [t2, un_s]
      refine ⟨⟨?_, ⟨by omega, ?_, ?_⟩, fun j hj => ?_, fun j j0 hj => ?_, fun i j hij hj => ?_, fun j hj => ?_⟩, bx⟩
      · rw [t1, t2, t3]; exact uq_app hu ht hz (by omega)
      · rw [bx.2.1 0 n0]; exact e0
      · rw [bx.2.1 0 n0, (bx.2.2 0 n0).1]; exact f0
      · by_cases w : j = bn σ
        · rw [w, un', t3, t4, un_s, un_s, t1]
          exact ⟨Nat.succ_le_succ (hb k hk).1, g64⟩
        · have hj' : j < bn σ := by omega
          rw [bx.2.1 j hj', (bx.2.2 j hj').1, (bx.2.2 j hj').2, t1]
          exact ⟨Nat.le_succ_of_le (hb j hj').1, (hb j hj').2⟩
      · by_cases w : j = bn σ
        · rw [w, un', t3, t4, un_s, un_s]
          have fp : 0 < bfr σ (bu σ k) := Nat.pos_of_ne_zero (hu.1 k hk).2
          refine ⟨by omega, ?_⟩
          unfold bg1
          by_cases q : bfr σ (bu σ k) = 1
          · rw [if_pos q]
            have e1 : (6 * h + r) / 6 = h := by omega
            have e2 : (6 * h + r) % 6 = r := by omega
            rw [e1, e2]; exact ⟨hh, hl, hr⟩
          · rw [if_neg q]
            have k0 : 0 < k := Nat.pos_of_ne_zero fun e => q (by rw [e]; exact f0)
            exact (h2 k k0 hk).2
        · have hj' : j < bn σ := by omega
          rw [bx.2.1 j hj', (bx.2.2 j hj').1, (bx.2.2 j hj').2]; exact h2 j j0 hj'
      · by_cases w : j = bn σ
        · rw [w, un', kn]
          by_cases w2 : i = bn σ
          · rw [w2, un', kn]; exact Nat.le_refl _
          · rw [ko i (by omega)]; exact Nat.le_trans (hx i (by omega)) hK
        · rw [ko i (by omega), ko j (by omega)]; exact hm i j hij (by omega)
      · by_cases w : j = bn σ
        · rw [w, un', kn]; exact Nat.le_refl _
        · rw [ko j (by omega)]; exact Nat.le_trans (hx j (by omega)) hK
    · exact ⟨bi_wk hi hK, bx_rf _⟩
/-- the next going never is less -/
theorem kev_r {σ : Bq} {k h r : Nat} : kev σ k h r ≤ kev σ k h (r + 1) := by
  unfold kev bg1; split <;> omega
theorem kev_h {σ : Bq} {k h r : Nat} (hr : r ≤ 6) : kev σ k h r ≤ kev σ k (h + 1) 0 := by
  unfold kev bg1; split <;> omega
theorem brow_ok {σ : Bq} {k h : Nat} (hR : 0 < R) (r6 : R ≤ 6) (h6 : H ≤ 6) (hi : BI S R H σ (kev σ k h 0)) (hk : k < bn σ) (hh : h < H) (hl : ¬ lv S h = 0) : ∀ r, r ≤ R → BI S R H (brow S R D H k h σ r) (kev σ k h r) ∧ BX σ (brow S R D H k h σ r)
  | 0, _ => ⟨hi, bx_rf _⟩
  | r + 1, hr => by
    have ih := brow_ok hR r6 h6 hi hk hh hl r (by omega)
    have e := bx_g (h := h) (r := r) ih.2 hk
    have g := st1_ok (D := D) (h := h) (r := r) hR r6 h6 ih.1 (Nat.lt_of_lt_of_le hk ih.2.1) hh hl (by omega) (by rw [e.2]; exact Nat.le_refl _)
    refine ⟨bi_wk g.1 ?_, bx_tr ih.2 g.2⟩
    rw [e.2]; exact kev_r
theorem bex_ok {σ : Bq} {k : Nat} (hR : 0 < R) (r6 : R ≤ 6) (h6 : H ≤ 6) (hi : BI S R H σ (kev σ k 0 0)) (hk : k < bn σ) : ∀ h, h ≤ H → BI S R H (bex S R D H k σ h) (kev σ k h 0) ∧ BX σ (bex S R D H k σ h)
  | 0, _ => ⟨hi, bx_rf _⟩
  | h + 1, hh => by
    have ih := bex_ok hR r6 h6 hi hk h (by omega)
    show BI S R H (if lv S h = 0 then bex S R D H k σ h else brow S R D H k h (bex S R D H k σ h) R) (kev σ k (h + 1) 0) ∧ BX σ (if lv S h = 0 then bex S R D H k σ h else brow S R D H k h (bex S R D H k σ h) R)
    by_cases w : lv S h = 0
    · rw [if_pos w]; exact ⟨bi_wk ih.1 (kev_h (by omega)), ih.2⟩
    · rw [if_neg w]
      have e := fun r => (bx_g (h := h) (r := r) ih.2 hk).2
      have g := brow_ok (D := D) hR r6 h6 (by rw [e 0]; exact ih.1) (Nat.lt_of_lt_of_le hk ih.2.1) (show h < H by omega) w R (Nat.le_refl _)
      refine ⟨bi_wk g.1 ?_, bx_tr ih.2 g.2⟩
      rw [e R]; exact kev_h r6
theorem bst_0 (hq : Qok S R H (q0 S)) : BI S R H (bst S R D H 0) (kev (bst S R D H 0) 0 0 0) := by
  have hk := kc_lt hq
  have e1 : bn (bst S R D H 0) = 1 := rfl
  have e2 : ∀ j, bu (bst S R D H 0) j = kc S R H (q0 S) := fun _ => rfl
  have e3 : bfr (bst S R D H 0) = fun s => if s = kc S R H (q0 S) then 1 else 0 := rfl
  have e4 : ∀ s, bb (bst S R D H 0) s = 0 := fun _ => rfl
  have e5 : bfr (bst S R D H 0) (kc S R H (q0 S)) = 1 := by rw [e3]; exact if_pos rfl
  refine ⟨⟨fun j hj => ⟨by rw [e2]; exact hk, by rw [e2, e5]; decide⟩, fun i j hi hj _ => by rw [e1] at hi hj; omega, fun s hs z => ⟨0, by rw [e1]; decide, ?_⟩⟩, ⟨by rw [e1]; decide, rfl, by rw [e2]; exact e5⟩, fun j hj => ?_, fun j j0 hj => by rw [e1] at hj; omega, fun i j hij hj => ?_, fun j hj => ?_⟩
  · rw [e2]
    refine Classical.byContradiction fun w => z ?_
    rw [e3]
    exact if_neg fun e => w e.symm
  · rw [e2, e5, e1, e4]; exact ⟨Nat.le_refl _, by decide⟩
  · rw [e2, e2]; exact Nat.le_refl _
  · rw [e2]
    unfold bk kev bg1
    rw [e2, e5, e4]
    simp
/-- all the time; and what has come stays -/
theorem bst_ok (hR : 0 < R) (r6 : R ≤ 6) (h6 : H ≤ 6) (hq : Qok S R H (q0 S)) : ∀ k, ((k < bn (bst S R D H k) → BI S R H (bst S R D H k) (kev (bst S R D H k) k 0 0)) ∧ ∃ K, BI S R H (bst S R D H k) K)
  | 0 => ⟨fun _ => bst_0 hq, _, bst_0 hq⟩
  | k + 1 => by
    have ih := bst_ok hR r6 h6 hq k
    show ((k + 1 < bn (if k < bn (bst S R D H k) then bex S R D H k (bst S R D H k) H else bst S R D H k) → BI S R H (if k < bn (bst S R D H k) then bex S R D H k (bst S R D H k) H else bst S R D H k) (kev (if k < bn (bst S R D H k) then bex S R D H k (bst S R D H k) H else bst S R D H k) (k + 1) 0 0)) ∧ ∃ K, BI S R H (if k < bn (bst S R D H k) then bex S R D H k (bst S R D H k) H else bst S R D H k) K)
    by_cases w : k < bn (bst S R D H k)
    · rw [if_pos w]
      have g := bex_ok (D := D) hR r6 h6 (ih.1 w) w H (Nat.le_refl _)
      refine ⟨fun hk1 => ?_, _, g.1⟩
      obtain ⟨hu, ⟨n0, e0, f0⟩, hb, h2, hm, hx⟩ := id g.1
      have i1 := h2 (k + 1) (Nat.succ_pos _) hk1
      refine ⟨hu, ⟨n0, e0, f0⟩, hb, h2, hm, fun j hj => Nat.le_trans (hx j hj) ?_⟩
      have e : kev (bex S R D H k (bst S R D H k) H) (k + 1) 0 0 = bk (bex S R D H k (bst S R D H k) H) (bu (bex S R D H k (bst S R D H k) H) (k + 1)) + 64 := by
        unfold kev bk bg1
        rw [if_neg (by omega)]; omega
      rw [e, ← (bx_g (h := H) (r := 0) g.2 w).2]
      by_cases y : k = 0
      · subst y
        have q1 : bfr (bex S R D H 0 (bst S R D H 0) H) (bu (bex S R D H 0 (bst S R D H 0) H) 0) = 1 := f0
        unfold kev bk bg1
        rw [q1, if_pos rfl]; omega
      · have q1 := (h2 k (Nat.pos_of_ne_zero y) (by omega)).1
        have q2 := hm k (k + 1) (Nat.le_succ _) hk1
        have q3 : kev (bex S R D H k (bst S R D H k) H) k H 0 = bk (bex S R D H k (bst S R D H k) H) (bu (bex S R D H k (bst S R D H k) H) k) + 64 := by
          unfold kev bk bg1
          rw [if_neg (by omega)]; omega
        omega
    · rw [if_neg w]
      exact ⟨fun hk1 => by omega, ih.2⟩
theorem bst_x (hR : 0 < R) (r6 : R ≤ 6) (h6 : H ≤ 6) (hq : Qok S R H (q0 S)) (k : Nat) : BX (bst S R D H k) (bst S R D H (k + 1)) := by
  show BX (bst S R D H k) (if k < bn (bst S R D H k) then bex S R D H k (bst S R D H k) H else bst S R D H k)
  by_cases w : k < bn (bst S R D H k)
  · rw [if_pos w]; exact (bex_ok (D := D) hR r6 h6 ((bst_ok hR r6 h6 hq k).1 w) w H (Nat.le_refl _)).2
  · rw [if_neg w]; exact bx_rf _
theorem bst_xx (hR : 0 < R) (r6 : R ≤ 6) (h6 : H ≤ 6) (hq : Qok S R H (q0 S)) (k : Nat) : ∀ m, BX (bst S R D H k) (bst S R D H (k + m))
  | 0 => bx_rf _
  | m + 1 => bx_tr (bst_xx hR r6 h6 hq k m) (bst_x hR r6 h6 hq (k + m))
end Bfs
