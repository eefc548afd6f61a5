/-! ===== rules: tests, the reference's stack ===== -/
def StO (f : Nat → Int32) : List Nat → Prop
  | [] => True
  | a :: r => f r.length = nI a ∧ StO f r
theorem sto_up {f : Nat → Int32} {k : Nat} {v : Int32} : ∀ {r : List Nat}, r.length ≤ k → StO f r → StO (upd f k v) r
  | [], _, _ => True.intro
  | a :: r, h, ⟨h1, h2⟩ => by
    have : (a :: r).length = r.length + 1 := rfl
    exact ⟨by rw [pk_un (by omega)]; exact h1, sto_up (by omega) h2⟩
def RQs (B2 t : Nat) (u : Nat → Nat) (l : Nat) (c : Cl) (x : Ps) (σ : List Nat) (dd : Nat) : Prop := RQ B2 t u l c x ∧ cI c 16 B2 = nI σ.length ∧ StO (cA c 15 B2) σ ∧ cI c 13 B2 = nI dd
/-- how strongly a sign binds -/
def stg (a : Nat) : Nat := if a = 13 then 1 else if a = 12 then 2 else if a = 11 then 3 else 0
def ops (a : Nat) : Prop := a = 11 ∨ a = 12 ∨ a = 13 ∨ a = 91
/-- the class's sign of one that waits -/
def osg (a : Nat) : Nat := if a = 11 then 31 else if a = 12 then 29 else 30
section Stack
variable {c : Cl} {B2 t : Nat} {u : Nat → Nat} {l : Nat} {x y : Ps} {j dd : Nat} {σ : List Nat}
theorem RQs_k {Ks : List Nat} {c' : Cl} (k : Kp Ks c c') (h13 : 13 ∉ Ks) (h15 : 15 ∉ Ks) (h16 : 16 ∉ Ks) (hQ : RQ B2 t u l c' y) (h : RQs B2 t u l c x σ dd) : RQs B2 t u l c' y σ dd := ⟨hQ, by rw [(k 16 h16).1]; exact h.2.1, by rw [(k 15 h15).2.2.2.1]; exact h.2.2.1, by rw [(k 13 h13).1]; exact h.2.2.2⟩
theorem RQ_st {c' : Cl} (k : Kp [13, 15, 16] c c') (h : RQ B2 t u l c x) : RQ B2 t u l c' x := by
  obtain ⟨⟨n, hR, hn⟩, h1, h2, h3, h4, h5⟩ := h
  exact ⟨⟨n, RP_k k (by decide) (by decide) (by decide) hR, hn⟩, by rw [(k 9 (by decide)).1]; exact h1, by rw [(k 11 (by decide)).1]; exact h2, by rw [(k 4 (by decide)).2.2.2.1]; exact h3, by rw [(k 12 (by decide)).1]; exact h4, fun i hi => by rw [(k 3 (by decide)).2.2.2.1]; exact h5 i hi⟩
theorem f_188 {a : Nat} (ha : ops a) : F_188 (nI a) = some (nI (stg a)) := by
  rcases ha with e | e | e | e <;> subst e <;> rfl
/-- nothing is settled -/
theorem set_no {least : Nat} (hl : least ≤ 3) (h : RQs B2 t u l c x σ dd) (hσ : σ.length ≤ 400) (hs : ∀ a r, σ = a :: r → ops a ∧ stg a < least) : F_189 c B2 (nI least) = some c := by
  unfold F_189
  rw [G_189, h.2.1]
  cases σ with
  | nil => exact in_pos (by show nI 0 ≤ 0; decide) rfl
  | cons a r =>
    obtain ⟨h1, h2⟩ := hs a r rfl
    have e : (a :: r).length = r.length + 1 := rfl
    have s4 : stg a ≤ 3 := by rcases h1 with z | z | z | z <;> subst z <;> decide
    rw [e]
    refine in_neg (nI_nle (by omega) (by omega)) ?_
    rw [nI_pred]
    exact ob_mk ((ald_ok (by omega) (by decide)).trans (by rw [h.2.2.1.1])) (ob_mk (f_188 h1) (in_pos (nI_lt h2 (by omega)) rfl))
/-- one is settled -/
theorem set_pop {least a : Nat} {r : List Nat} (l4 : l ≤ 400) (ht : t < 6) (hl : least ≤ 3) (hσ : σ = a :: r) (ha : a = 11 ∨ a = 12 ∨ a = 13) (hg : least ≤ stg a) (hd : a = 11 → 1 ≤ dd) (hdd : dd ≤ 10) (h : RQs B2 t u l c x σ dd) (hs : SL l (σ.length + j) x) : ∃ c', FQ B2 t [3, 4, 13, 16] c c' ∧ RQs B2 t u l c' (pput (osg a) x) r (if a = 11 then dd - 1 else dd) ∧ SL l (r.length + j) (pput (osg a) x) ∧ F_189 c B2 (nI least) = F_189 c' B2 (nI least) := by
  subst hσ
  have e : (a :: r).length = r.length + 1 := rfl
  rw [e] at hs
  have hs' : SL l (r.length + j + 1) x := sl_le hs (by omega)
  have sp := sl_put (s := osg a) l4 hs'
  have rl : r.length < 400 := by have := hs.1; have := hs.2.1; omega
  have oa : ops a := by unfold ops; omega
  have s4 : stg a ≤ 3 := by rcases ha with z | z | z <;> subst z <;> decide
  obtain ⟨d1, hd1⟩ : ∃ d1, d1 = sI c 16 B2 (nI r.length) := ⟨_, rfl⟩
  have k1 : Kp [16] c d1 := by rw [hd1]; exact kp_I (by decide)
  have e16 : cI d1 16 B2 = nI r.length := by rw [hd1, cI_same]
  have a15 : ald (cA d1 15 B2) 400 (nI r.length) = some (nI a) := (ald_ok rl (by decide)).trans (by rw [(k1 15 (by decide)).2.2.2.1, h.2.2.1.1])
  obtain ⟨d2, w1, w2, w3⟩ := f_185 (s := a) (v := 0) (sg := osg a) (x := x) ht sp.1 (by rcases ha with z | z | z <;> subst z <;> decide) (RQ_st (kp_wd k1 (by decide)) h.1)
  have e162 : cI d2 16 B2 = nI r.length := by rw [(w2.1 16 (by decide)).1]; exact e16
  have a152 : ald (cA d2 15 B2) 400 (nI r.length) = some (nI a) := (ald_ok rl (by decide)).trans (by rw [(w2.1 15 (by decide)).2.2.2.1, (k1 15 (by decide)).2.2.2.1, h.2.2.1.1])
  have e13 : cI d2 13 B2 = nI dd := by rw [(w2.1 13 (by decide)).1, (k1 13 (by decide)).1]; exact h.2.2.2
  have stk : StO (cA d2 15 B2) r := by rw [(w2.1 15 (by decide)).2.2.2.1, (k1 15 (by decide)).2.2.2.1]; exact h.2.2.1.2
  have f12 : FQ B2 t [3, 4, 13, 16] c d2 := fq_tr (fq_k k1 (by decide) (by decide)) (fq_wd w2 (by decide))
  have step : ∀ {y : Option Cl}, (if nI a = 11 then some (sI d2 13 B2 ((cI d2 13 B2) - 1)) >>= fun c12_10 => G_189 B2 0 [nI least] [] [] c12_10 else G_189 B2 0 [nI least] [] [] d2) = y → F_189 c B2 (nI least) = y := fun {y} ey => by
    unfold F_189
    rw [G_189, h.2.1, e, if_neg (nI_nle (by omega) (by omega)), nI_pred]
    refine ob_e ((ald_ok rl (by decide)).trans (by rw [h.2.2.1.1])) (ob_e (f_188 oa) ?_)
    rw [if_neg (nI_nlt hg (by omega)), ← hd1]
    refine ob_e rfl ?_
    rw [e16]
    refine ob_e a15 (ob_e w1 ?_)
    rw [e162]
    exact ob_e a152 ey
  by_cases z : a = 11
  · obtain ⟨d3, hd3⟩ : ∃ d3, d3 = sI d2 13 B2 ((cI d2 13 B2) - 1) := ⟨_, rfl⟩
    have k3 : Kp [13] d2 d3 := by rw [hd3]; exact kp_I (by decide)
    refine ⟨d3, fq_tr f12 (fq_k k3 (by decide) (by decide)), ⟨RQ_st (kp_wd k3 (by decide)) w3, by rw [(k3 16 (by decide)).1]; exact e162, by rw [(k3 15 (by decide)).2.2.2.1]; exact stk, ?_⟩, sp.2.1, step ?_⟩
    · rw [if_pos z, hd3, cI_same, e13, nI_m1 (hd z)]
    · rw [if_pos (by rw [z]; rfl), ← hd3]; rfl
  · refine ⟨d2, f12, ⟨w3, e162, stk, by rw [if_neg z]; exact e13⟩, sp.2.1, step ?_⟩
    rw [if_neg (show ¬ nI a = (11 : Int32) from fun q => z ((nI_eq (a := a) (b := 11) (by omega) (by omega)).mp q))]; rfl
/-- whether a bracket stands open -/
theorem f_195 (hσ : σ.length ≤ 400) (hb : ∀ a, a ∈ σ → ops a) (h : RQs B2 t u l c x σ dd) : F_195 c B2 = some (if 91 ∈ σ then 1 else 0) := by
  obtain ⟨-, e16, hst, -⟩ := h
  have at' : ∀ (r : List Nat), StO (cA c 15 B2) r → ∀ k, k < r.length → ∃ a, a ∈ r ∧ cA c 15 B2 k = nI a := by
    intro r
    induction r with
    | nil => intro _ k hk; exact absurd hk (Nat.not_lt_zero _)
    | cons a r ih =>
      intro hs k hk
      have hk' : k < r.length + 1 := hk
      by_cases w : k = r.length
      · exact ⟨a, List.mem_cons_self, by rw [w]; exact hs.1⟩
      · obtain ⟨b, b1, b2⟩ := ih hs.2 k (by omega)
        exact ⟨b, List.mem_cons_of_mem _ b1, b2⟩
  have ta : ∀ (r : List Nat), StO (cA c 15 B2) r → ∀ a, a ∈ r → ∃ k, k < r.length ∧ cA c 15 B2 k = nI a := by
    intro r
    induction r with
    | nil => intro _ a ha; cases ha
    | cons b r ih =>
      intro hs a ha
      rcases List.mem_cons.mp ha with e | e
      · subst e; exact ⟨r.length, Nat.lt_succ_self _, hs.1⟩
      · obtain ⟨k, k1, k2⟩ := ih hs.2 a e
        exact ⟨k, Nat.lt_succ_of_lt k1, k2⟩
  have loop : ∀ m i, i + m = σ.length → (∀ k, k < i → cA c 15 B2 k ≠ 91) → G_195 c B2 0 [nI i] [] [] = some (if 91 ∈ σ then 1 else 0) := by
    intro m
    induction m with
    | zero =>
      intro i hi hlo
      rw [G_195, e16]
      have : ¬ 91 ∈ σ := fun z => by
        obtain ⟨k, k1, k2⟩ := ta σ hst 91 z
        exact hlo k (by omega) k2
      rw [show (if 91 ∈ σ then (1 : Int32) else 0) = 0 from if_neg this]
      exact in_pos (nI_le (by omega) (by omega)) rfl
    | succ m ih =>
      intro i hi hlo
      obtain ⟨a, a1, a2⟩ := at' σ hst i (by omega)
      rw [G_195, e16]
      refine in_neg (nI_ge (by omega) (by omega)) (ob_mk ((ald_ok (by omega) (by decide)).trans (by rw [a2])) ?_)
      by_cases w : a = 91
      · rw [show (if 91 ∈ σ then (1 : Int32) else 0) = 1 from if_pos (by rw [← w]; exact a1)]
        exact in_pos (by rw [w]; rfl) rfl
      · have ab := hb a a1
        have nw : ¬ nI a = 91 := fun z => w ((nI_eq (a := a) (b := 91) (by unfold ops at ab; omega) (by omega)).mp z)
        refine in_neg nw ?_
        rw [nI_1]
        refine ih (i + 1) (by omega) (fun k hk => ?_)
        by_cases q : k = i
        · rw [q, a2]; exact nw
        · exact hlo k (by omega)
  unfold F_195
  exact loop σ.length 0 (by omega) (fun k hk => absurd hk (Nat.not_lt_zero _))
def andp (a : Bool) (x : Ps) : Ps := if a = true then pput 29 x else x
def tau (a b : Bool) : List Nat := (if a = true then [12] else []) ++ (if b = true then [13] else [])
def bas (β : List Nat) : Prop := (∀ a, a ∈ β → ops a) ∧ (β = [] ∨ ∃ σ, β = 91 :: σ)
theorem tau_ops {a b : Bool} {β : List Nat} (hβ : bas β) : ∀ z, z ∈ tau a b ++ β → ops z := fun z hz => by
  rcases List.mem_append.mp hz with h | h
  · unfold tau at h
    unfold ops
    cases a <;> cases b <;> simp at h <;> omega
  · exact hβ.1 z h
theorem sl_len {k : Nat} (l4 : l ≤ 400) (h : SL l (σ.length + k) x) : σ.length ≤ 400 := by have := h.1; have := h.2.1; omega
/-- what binds weaker than so much stays -/
theorem set_bas {least : Nat} {β : List Nat} (hl : 1 ≤ least) (hl3 : least ≤ 3) (hβ : bas β) (h : RQs B2 t u l c x β dd) (hσ : β.length ≤ 400) : F_189 c B2 (nI least) = some c := set_no hl3 h hσ (fun a r e => by
  rcases hβ.2 with z | ⟨σ, z⟩
  · rw [z] at e; cases e
  · rw [z] at e
    cases e
    exact ⟨by unfold ops; omega, by show 0 < least; omega⟩)
theorem set_3 {a b : Bool} {β : List Nat} (l4 : l ≤ 400) (hβ : bas β) (h : RQs B2 t u l c x (tau a b ++ β) dd) (hs : SL l ((tau a b ++ β).length + j) x) : F_189 c B2 3 = some c := by
  refine set_no (least := 3) (by decide) h (sl_len l4 hs) (fun z r e => ⟨tau_ops hβ z (by rw [e]; exact List.mem_cons_self), ?_⟩)
  cases a with
  | true => unfold tau at e; simp at e; rw [← e.1]; decide
  | false =>
    cases b with
    | true => unfold tau at e; simp at e; rw [← e.1]; decide
    | false =>
      have e' : β = z :: r := e
      rcases hβ.2 with q | ⟨σ, q⟩
      · rw [q] at e'; cases e'
      · rw [q] at e'; cases e'; decide
theorem set_2 {a b : Bool} {β : List Nat} (l4 : l ≤ 400) (ht : t < 6) (hdd : dd ≤ 10) (hβ : bas β) (h : RQs B2 t u l c x (tau a b ++ β) dd) (hs : SL l ((tau a b ++ β).length + j) x) : ∃ c', FQ B2 t [3, 4, 13, 16] c c' ∧ RQs B2 t u l c' (andp a x) (tau false b ++ β) dd ∧ SL l ((tau false b ++ β).length + j) (andp a x) ∧ F_189 c B2 2 = some c' := by
  have stop : ∀ {c : Cl} {x : Ps}, RQs B2 t u l c x (tau false b ++ β) dd → SL l ((tau false b ++ β).length + j) x → F_189 c B2 2 = some c := fun {c x} h hs => by
    refine set_no (least := 2) (by decide) h (sl_len l4 hs) (fun z r e => ⟨tau_ops hβ z (by rw [e]; exact List.mem_cons_self), ?_⟩)
    cases b with
    | true => unfold tau at e; simp at e; rw [← e.1]; decide
    | false =>
      have e' : β = z :: r := e
      rcases hβ.2 with q | ⟨σ, q⟩
      · rw [q] at e'; cases e'
      · rw [q] at e'; cases e'; decide
  cases a with
  | false => exact ⟨c, fq_rf, h, hs, stop h hs⟩
  | true =>
    obtain ⟨c', g1, g2, g3, g4⟩ := set_pop (least := 2) (a := 12) (r := tau false b ++ β) (σ := tau true b ++ β) l4 ht (by decide) rfl (Or.inr (Or.inl rfl)) (by decide) (fun z => by omega) hdd h hs
    exact ⟨c', g1, g2, g3, g4.trans (stop g2 g3)⟩
theorem set_1 {a b : Bool} {β : List Nat} (l4 : l ≤ 400) (ht : t < 6) (hdd : dd ≤ 10) (hβ : bas β) (h : RQs B2 t u l c x (tau a b ++ β) dd) (hs : SL l ((tau a b ++ β).length + j) x) : ∃ c', FQ B2 t [3, 4, 13, 16] c c' ∧ RQs B2 t u l c' (por b (andp a x)) β dd ∧ SL l (β.length + j) (por b (andp a x)) ∧ F_189 c B2 1 = some c' := by
  have two : ∀ {c : Cl} {x : Ps}, RQs B2 t u l c x (tau false b ++ β) dd → SL l ((tau false b ++ β).length + j) x → ∃ c', FQ B2 t [3, 4, 13, 16] c c' ∧ RQs B2 t u l c' (por b x) β dd ∧ SL l (β.length + j) (por b x) ∧ F_189 c B2 1 = some c' := fun {c x} h hs => by
    cases b with
    | false => exact ⟨c, fq_rf, h, hs, set_bas (least := 1) (by decide) (by decide) hβ h (sl_len l4 hs)⟩
    | true =>
      obtain ⟨c', g1, g2, g3, g4⟩ := set_pop (least := 1) (a := 13) (r := β) (σ := tau false true ++ β) l4 ht (by decide) rfl (Or.inr (Or.inr rfl)) (by decide) (fun z => by omega) hdd h hs
      exact ⟨c', g1, g2, g3, g4.trans (set_bas (least := 1) (by decide) (by decide) hβ g2 (sl_len l4 g3))⟩
  cases a with
  | false => exact two h hs
  | true =>
    obtain ⟨c', g1, g2, g3, g4⟩ := set_pop (least := 1) (a := 12) (r := tau false b ++ β) (σ := tau true b ++ β) l4 ht (by decide) rfl (Or.inr (Or.inl rfl)) (by decide) (fun z => by omega) hdd h hs
    obtain ⟨c'', i1, i2, i3, i4⟩ := two g2 g3
    exact ⟨c'', fq_tr g1 i1, i2, i3, g4.trans i4⟩
end Stack
