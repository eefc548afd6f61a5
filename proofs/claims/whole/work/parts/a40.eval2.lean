/-! ===== rules: what the signs come to ===== -/
def sgk (s : Nat) : Prop := s < 12 ∨ (100 ≤ s ∧ s ≤ 100099) ∨ (20 ≤ s ∧ s < 32)
def cof (x : Ps) : Nat → Int32 := fun i => nI (rC x i)
/-- signs that were stay -/
def Pre (x y : Ps) : Prop := rK x ≤ rK y ∧ ∀ i, i < rK x → rC y i = rC x i
def Ev (s0 : Nat) (x : Ps) (f : (Nat → Int64) → List Int64) : Prop := s0 ≤ rK x ∧ (∀ w, rns w (cof x) (rK x - s0) s0 [] = some (f w)) ∧ (∀ w, (f w).length ≤ rV x) ∧ (∀ i, i < rK x → sgk (rC x i)) ∧ rV x ≤ 60
section Eval2
variable {u : Nat → Nat} {l s0 : Nat} {x y : Ps} {j : Nat} {f : (Nat → Int64) → List Int64}
theorem pre_rf (x : Ps) : Pre x x := ⟨Nat.le_refl _, fun _ _ => rfl⟩
theorem pre_tr {x y z : Ps} (h : Pre x y) (h' : Pre y z) : Pre x z := ⟨Nat.le_trans h.1 h'.1, fun i hi => (h'.2 i (Nat.lt_of_lt_of_le hi h.1)).trans (h.2 i hi)⟩
theorem pre_put {s : Nat} : Pre x (pput s x) := by
  unfold pput
  split
  · exact ⟨Nat.le_succ _, fun i hi => un_n (Nat.ne_of_lt hi)⟩
  · exact pre_rf _
theorem rns_cg {w : Nat → Int64} {c c' : Nat → Int32} : ∀ {m i : Nat} {stk : List Int64}, (∀ k, i ≤ k → k < i + m → c' k = c k) → rns w c' m i stk = rns w c m i stk
  | 0, _, _, _ => rfl
  | m + 1, i, stk, h => by
    show (rst w (c' i) stk >>= fun t => rns w c' m (i + 1) t) = (rst w (c i) stk >>= fun t => rns w c m (i + 1) t)
    rw [h i (Nat.le_refl _) (by omega)]
    have : (fun t => rns w c' m (i + 1) t) = fun t => rns w c m (i + 1) t := by
      funext t
      exact rns_cg fun k k1 k2 => h k (by omega) (by omega)
    rw [this]
theorem rns_app {w : Nat → Int64} {c : Nat → Int32} : ∀ {m i : Nat} {stk : List Int64}, rns w c (m + 1) i stk = (rns w c m i stk >>= fun t => rst w (c (i + m)) t)
  | 0, i, stk => by
    show (rst w (c i) stk >>= fun t => some t) = rst w (c (i + 0)) stk
    rw [Nat.add_zero]
    cases rst w (c i) stk <;> rfl
  | m + 1, i, stk => by
    show (rst w (c i) stk >>= fun t => rns w c (m + 1) (i + 1) t) = ((rst w (c i) stk >>= fun t => rns w c m (i + 1) t) >>= fun t => rst w (c (i + (m + 1))) t)
    cases rst w (c i) stk with
    | none => rfl
    | some t =>
      show rns w c (m + 1) (i + 1) t = (rns w c m (i + 1) t >>= fun t => rst w (c (i + (m + 1))) t)
      rw [rns_app, show i + 1 + m = i + (m + 1) by omega]
/-- one sign more -/
theorem ev_put {s : Nat} {g : (Nat → Int64) → List Int64} (hk : rK x < 400) (hs : sgk s) (h : Ev s0 x f) (hg : ∀ w, rst w (nI s) (f w) = some (g w)) (hl : ∀ w, (g w).length ≤ rV x) : Ev s0 (pput s x) g := by
  obtain ⟨h1, h2, h3, h4, h5⟩ := h
  have e : pput s x = (rP x, rV x, rK x + 1, un (rC x) (rK x) s) := by unfold pput; rw [if_pos hk]
  rw [e]
  refine ⟨by show s0 ≤ rK x + 1; omega, fun w => ?_, hl, fun i hi => ?_, h5⟩
  · show rns w (fun i => nI (un (rC x) (rK x) s i)) (rK x + 1 - s0) s0 [] = some (g w)
    rw [show rK x + 1 - s0 = (rK x - s0) + 1 by omega, rns_app, show s0 + (rK x - s0) = rK x by omega]
    have e1 : rns w (fun i => nI (un (rC x) (rK x) s i)) (rK x - s0) s0 [] = rns w (cof x) (rK x - s0) s0 [] := rns_cg fun k k1 k2 => by
      show nI (un (rC x) (rK x) s k) = nI (rC x k)
      rw [un_n (by omega)]
    rw [e1, h2 w]
    show rst w (nI (un (rC x) (rK x) s (rK x))) (f w) = _
    rw [un_s]; exact hg w
  · have hi' : i < rK x + 1 := hi
    show sgk (un (rC x) (rK x) s i)
    by_cases w : i = rK x
    · rw [w, un_s]; exact hs
    · rw [un_n w]; exact h4 i (by omega)
theorem ev_sk (h : Ev s0 x f) : Ev s0 (pskx u l x) f := h
theorem ev_inc (hv : rV x < 60) (h : Ev s0 x f) : Ev s0 (pinc x) f := ⟨h.1, h.2.1, fun w => Nat.le_succ_of_le (h.2.2.1 w), h.2.2.2.1, hv⟩
theorem ev_bin {s : Nat} {a b : (Nat → Int64) → Int64} (hs : 20 ≤ s) (hs2 : s < 31) (l4 : l ≤ 400) (sl : SL l (j + 1) x) (h : Ev s0 x (fun w => b w :: a w :: f w)) : Ev s0 (pput s x) (fun w => jn (nI s) (a w) (b w) :: f w) := by
  refine ev_put (sl_put (s := s) l4 sl).1 (Or.inr (Or.inr ⟨hs, by omega⟩)) h (fun w => ?_) (fun w => by have := h.2.2.1 w; simp at this ⊢; omega)
  unfold rst
  rw [if_neg (fun z => by have := (nI_eq (a := s) (b := 31) (by omega) (by omega)).mp z; omega), if_neg (show ¬ nI s < (20 : Int32) from nI_nlt (b := 20) (by omega) (by omega)), if_neg (show ¬ (100 : Int32) ≤ nI s from nI_ge (b := 100) (by omega) (by omega))]
theorem ev_not {a : (Nat → Int64) → Int64} (l4 : l ≤ 400) (sl : SL l (j + 1) x) (h : Ev s0 x (fun w => a w :: f w)) : Ev s0 (pput 31 x) (fun w => (1 - a w) :: f w) := by
  refine ev_put (sl_put (s := 31) l4 sl).1 (Or.inr (Or.inr ⟨by decide, by decide⟩)) h (fun w => ?_) (fun w => by have := h.2.2.1 w; simp at this ⊢; omega)
  unfold rst
  rw [if_pos (show nI 31 = (31 : Int32) from rfl)]
theorem ev_val (l4 : l ≤ 400) (sl : SL l j x) (h : Ev s0 x f) (e : pval u l x = .inr y) : Pre x y ∧ ∃ v : (Nat → Int64) → Int64, Ev s0 y (fun w => v w :: f w) := by
  unfold pval at e
  split at e
  · cases e
  · rename_i n31
    split at e
    · rename_i hk
      split at e
      · cases e
      · rename_i hv
        cases e
        have hp : rP x < l := kd_lt_l (u := u) (x := x) (by omega)
        have k4 : rK x < 400 := by have := sl.1; have := sl.2.1; omega
        refine ⟨⟨(pre_put (x := pinc x)).1, (pre_put (x := pinc x)).2⟩, ?_⟩
        have vb := nv_lt (u := u) (l := l) (p := rP x)
        have hi := ev_inc (by omega) h
        have hlen : ∀ w, (f w).length < 60 := fun w => by have := h.2.2.1 w; omega
        by_cases k30 : kd u l (rP x) = 30
        · refine ⟨fun _ => (nI (100 + nv u l (rP x)) - 100).toInt64, ev_sk (ev_put k4 ?_ hi (fun w => ?_) (fun w => ?_))⟩
          · rw [if_pos k30]; exact Or.inr (Or.inl ⟨by omega, by omega⟩)
          · rw [if_pos k30]
            unfold rst
            rw [if_neg (fun z => by have := (nI_eq (a := 100 + nv u l (rP x)) (b := 31) (by omega) (by omega)).mp z; omega), if_neg (show ¬ nI (100 + nv u l (rP x)) < (20 : Int32) from nI_nlt (b := 20) (by omega) (by omega)), if_pos (show (100 : Int32) ≤ nI (100 + nv u l (rP x)) from nI_le (a := 100) (by omega) (by omega)), if_pos (hlen w)]
          · have := h.2.2.1 w
            show (f w).length + 1 ≤ rV x + 1
            omega
        · have k12 : kd u l (rP x) < 12 := by omega
          refine ⟨fun w => w (nI (kd u l (rP x))).toNatClampNeg, ev_sk (ev_put k4 ?_ hi (fun w => ?_) (fun w => ?_))⟩
          · rw [if_neg k30]; exact Or.inl k12
          · rw [if_neg k30]
            unfold rst
            rw [if_neg (fun z => by have := (nI_eq (a := kd u l (rP x)) (b := 31) (by omega) (by omega)).mp z; omega), if_pos (show nI (kd u l (rP x)) < (20 : Int32) from nI_lt (b := 20) (by omega) (by decide)), if_pos (hlen w)]
          · have := h.2.2.1 w
            show (f w).length + 1 ≤ rV x + 1
            omega
    · cases e
/-- what waits, on the stack -/
def stqv (f : (Nat → Int64) → List Int64) (o : Option Nat) (a b : (Nat → Int64) → Int64) : (Nat → Int64) → List Int64 := match o with | none => fun w => b w :: f w | some _ => fun w => b w :: a w :: f w
theorem ev_due {o : Option Nat} {a b : (Nat → Int64) → Int64} (l4 : l ≤ 400) (ho : dok o) (sl : SL l (j + oc o) x) (h : Ev s0 x (stqv f o a b)) : Pre x (pdue o x) ∧ ∃ v : (Nat → Int64) → Int64, Ev s0 (pdue o x) (fun w => v w :: f w) := by
  rcases ho with e | e | e
  · subst e; exact ⟨pre_rf _, b, h⟩
  · subst e; exact ⟨pre_put, _, ev_bin (s := 20) (by decide) (by decide) l4 sl h⟩
  · subst e; exact ⟨pre_put, _, ev_bin (s := 21) (by decide) (by decide) l4 sl h⟩
theorem ev_psl (l4 : l ≤ 400) : ∀ (m : Nat) (o : Option Nat) (a b : (Nat → Int64) → Int64) (x y : Ps) (j : Nat), dok o → SL l (j + oc o) x → Ev s0 x (stqv f o a b) → psl u l m o x = .inr y → Pre x y ∧ ∃ v : (Nat → Int64) → Int64, Ev s0 y (fun w => v w :: f w)
  | 0, o, a, b, x, y, j, ho, hs, h, e => by
    have e' : (Sum.inr (pdue o x) : Pr) = .inr y := e
    cases e'
    exact ev_due l4 ho hs h
  | m + 1, o, a, b, x, y, j, ho, hs, h, e => by
    have tm : ∀ sg, (sg = 22 ∨ sg = 23) → kd u l (rP x) ≠ 35 → pb (pval u l (pskx u l x)) (fun y => psl u l m o (pput sg y)) = .inr y → Pre x y ∧ ∃ v : (Nat → Int64) → Int64, Ev s0 y (fun w => v w :: f w) := fun sg hsg hk e => by
      have pl := kd_lt_l (u := u) (l := l) (x := x) hk
      cases hv : pval u l (pskx u l x) with
      | inl f => rw [hv] at e; cases e
      | inr z =>
        rw [hv] at e
        have s1 := sl_val (sl_sk (u := u) pl hs) hv l4
        obtain ⟨p1, v, v1⟩ := ev_val l4 (sl_sk (u := u) pl hs) (ev_sk h) hv
        have h2 : ∃ b' : (Nat → Int64) → Int64, Ev s0 (pput sg z) (stqv f o a b') := by
          rcases ho with q | q | q
          · subst q; exact ⟨_, ev_bin (a := b) (b := v) (s := sg) (by omega) (by omega) l4 s1 v1⟩
          · subst q; exact ⟨_, ev_bin (f := fun w => a w :: f w) (a := b) (b := v) (s := sg) (by omega) (by omega) l4 s1 v1⟩
          · subst q; exact ⟨_, ev_bin (f := fun w => a w :: f w) (a := b) (b := v) (s := sg) (by omega) (by omega) l4 s1 v1⟩
        obtain ⟨b', h3⟩ := h2
        obtain ⟨p2, r⟩ := ev_psl l4 m o a b' (pput sg z) y j ho (sl_put l4 s1).2.1 h3 e
        exact ⟨pre_tr (show Pre x z from p1) (pre_tr pre_put p2), r⟩
    have pm : ∀ sg, (sg = 20 ∨ sg = 21) → kd u l (rP x) ≠ 35 → pb (pval u l (pdue o (pskx u l x))) (psl u l m (some sg)) = .inr y → Pre x y ∧ ∃ v : (Nat → Int64) → Int64, Ev s0 y (fun w => v w :: f w) := fun sg hsg hk e => by
      have pl := kd_lt_l (u := u) (l := l) (x := x) hk
      cases hv : pval u l (pdue o (pskx u l x)) with
      | inl f => rw [hv] at e; cases e
      | inr z =>
        rw [hv] at e
        have s0' : SL l (j + 1 + oc o) (pskx u l x) := sl_le (sl_sk (u := u) pl hs) (by omega)
        obtain ⟨p0, a', v0⟩ := ev_due l4 ho s0' (ev_sk h)
        have s1 := sl_val (sl_due l4 s0') hv l4
        obtain ⟨p1, v, v1⟩ := ev_val l4 (sl_due l4 s0') v0 hv
        obtain ⟨p2, r⟩ := ev_psl l4 m (some sg) a' v z y j (by unfold dok; rcases hsg with q | q <;> subst q <;> simp) s1 v1 e
        exact ⟨pre_tr (show Pre x (pdue o (pskx u l x)) from p0) (pre_tr p1 p2), r⟩
    have e' : (if kd u l (rP x) = 142 then pb (pval u l (pskx u l x)) (fun y => psl u l m o (pput 22 y)) else if kd u l (rP x) = 147 then pb (pval u l (pskx u l x)) (fun y => psl u l m o (pput 23 y)) else if kd u l (rP x) = 143 then pb (pval u l (pdue o (pskx u l x))) (psl u l m (some 20)) else if kd u l (rP x) = 145 then pb (pval u l (pdue o (pskx u l x))) (psl u l m (some 21)) else (Sum.inr (pdue o x) : Pr)) = .inr y := e
    split at e'
    · exact tm 22 (Or.inl rfl) (by omega) e'
    · split at e'
      · exact tm 23 (Or.inr rfl) (by omega) e'
      · split at e'
        · exact pm 20 (Or.inl rfl) (by omega) e'
        · split at e'
          · exact pm 21 (Or.inr rfl) (by omega) e'
          · cases e'
            exact ev_due l4 ho hs h
theorem ev_psum (l4 : l ≤ 400) (sl : SL l j x) (h : Ev s0 x f) (e : psum u l x = .inr y) : Pre x y ∧ ∃ v : (Nat → Int64) → Int64, Ev s0 y (fun w => v w :: f w) := by
  unfold psum at e
  cases hv : pval u l x with
  | inl f => rw [hv] at e; cases e
  | inr z =>
    rw [hv] at e
    obtain ⟨p1, v, v1⟩ := ev_val l4 sl h hv
    obtain ⟨p2, r⟩ := ev_psl l4 400 none v v z y j (Or.inl rfl) (sl_val sl hv l4) v1 e
    exact ⟨pre_tr p1 p2, r⟩
def is01 (v : (Nat → Int64) → Int64) : Prop := ∀ w, v w = 0 ∨ v w = 1
theorem jn_cmp {s : Nat} (h : 24 ≤ s) (h2 : s ≤ 28) (a b : Int64) : jn (nI s) a b = 0 ∨ jn (nI s) a b = 1 := by
  have : s = 24 ∨ s = 25 ∨ s = 26 ∨ s = 27 ∨ s = 28 := by omega
  unfold jn F_39
  rcases this with e | e | e | e | e <;> subst e <;> simp [nI] <;> split <;> simp
theorem jn_and {a b : Int64} (ha : a = 0 ∨ a = 1) (hb : b = 0 ∨ b = 1) : jn (nI 29) a b = 0 ∨ jn (nI 29) a b = 1 := by
  rcases ha with e | e <;> rcases hb with g | g <;> subst e <;> subst g <;> decide +kernel
theorem jn_or {a b : Int64} (ha : a = 0 ∨ a = 1) (hb : b = 0 ∨ b = 1) : jn (nI 30) a b = 0 ∨ jn (nI 30) a b = 1 := by
  rcases ha with e | e <;> rcases hb with g | g <;> subst e <;> subst g <;> decide +kernel
end Eval2
