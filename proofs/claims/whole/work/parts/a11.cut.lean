/-! ===== texts: the class cuts them into pieces ===== -/
def mt (u : Nat → Nat) (e : Nat) : Nat → List Nat → Prop
  | q, [] => q = e
  | q, w :: ws => q < e ∧ u q = w ∧ mt u e (q + 1) ws
def fla : List (List Nat) → List Int32
  | [] => []
  | ws :: r => ws.map nI ++ 32 :: fla r
def pkl (ws : List Nat) : Nat := pkd (fun i => ws.getD i 0) 0 ws.length
def WSL : List (List Nat) := [[104, 101, 97, 100], [104, 97, 108, 118, 101, 115], [97, 116], [104, 111, 109, 101], [99, 97, 109, 101], [104, 101, 114, 101], [102, 101, 119], [99, 114, 111, 119, 100], [108, 101, 97, 115, 116], [103, 114, 101, 97, 116, 101, 115, 116], [103, 111, 110, 101], [109, 105, 110, 117, 116, 101], [114, 111, 111, 109, 115], [100, 111, 111, 114], [100, 101, 108, 97, 121], [109, 111, 115, 116], [115, 101, 110, 115, 101], [108, 105, 110, 103, 101, 114], [103, 111], [105, 102], [97, 110, 100], [111, 114], [110, 111, 116]]
theorem wsl_f : fla WSL = wordsL := by decide +kernel
theorem wsl_w : WSL.map pkl = WL := by decide +kernel
theorem wsl_ok : ∀ ws, ws ∈ WSL → ws.length ≤ 8 ∧ ∀ w, w ∈ ws → 97 ≤ w ∧ w ≤ 122 := by decide +kernel
section Cut
variable {c3 c11 : Cl} {rd : Nat} {u : Nat → Nat} {l : Nat} {T : Nat → Int32}
theorem mt_ix {e : Nat} : ∀ {ws : List Nat} {q : Nat}, mt u e q ws ↔ (e = q + ws.length ∧ ∀ i, i < ws.length → u (q + i) = ws.getD i 0)
  | [], q => by
    show q = e ↔ _
    constructor
    · intro h; exact ⟨by rw [h]; rfl, fun i hi => absurd hi (Nat.not_lt_zero _)⟩
    · intro h; have := h.1; show q = e; rw [this]; rfl
  | w :: ws, q => by
    show (q < e ∧ u q = w ∧ mt u e (q + 1) ws) ↔ (e = q + (ws.length + 1) ∧ ∀ i, i < ws.length + 1 → u (q + i) = (w :: ws).getD i 0)
    rw [mt_ix (ws := ws) (q := q + 1)]
    constructor
    · rintro ⟨h1, h2, h3, h4⟩
      refine ⟨by omega, fun i hi => ?_⟩
      cases i with
      | zero => exact h2
      | succ i => rw [show q + (i + 1) = q + 1 + i by omega, h4 i (by omega)]; rfl
    · rintro ⟨h1, h2⟩
      refine ⟨by omega, h2 0 (by omega), by omega, fun i hi => ?_⟩
      have := h2 (i + 1) (by omega)
      rw [show q + (i + 1) = q + 1 + i by omega] at this
      rw [this]; rfl
theorem wd_mis {s n : Nat} {cs : List Int32} {word : Int32} (hn : s + n ≤ 400) : ∀ {ws : List Nat}, (∀ w, w ∈ ws → 97 ≤ w ∧ w ≤ 122) → wd_go T (nI s) (nI (s + n)) (ws.map nI ++ 32 :: cs) word (-1) = wd_go T (nI s) (nI (s + n)) cs (word + 1) 0
  | [], _ => by
    show (if (32 : Int32) = 32 then (if (-1 : Int32) = nI (s + n) - nI s then some word else wd_go T (nI s) (nI (s + n)) cs (word + 1) 0) else _) = _
    rw [if_pos rfl, pk_sub (by omega), if_neg]
    intro z
    have : ¬ (-1 : Int32) < 0 := by rw [z]; exact nI_pos (by omega)
    exact this (by decide)
  | w :: ws, h => by
    have hw := h w List.mem_cons_self
    show (if nI w = 32 then _ else if (0 : Int32) ≤ -1 ∧ nI s + -1 < nI (s + n) then _ else wd_go T (nI s) (nI (s + n)) (ws.map nI ++ 32 :: cs) word (-1)) = _
    rw [if_neg (fun z => by have := (nI_eq (a := w) (b := 32) (by omega) (by omega)).mp z; omega), if_neg (fun z => absurd z.1 (by decide))]
    exact wd_mis hn (fun x hx => h x (List.mem_cons_of_mem _ hx))
theorem wd_one {s n : Nat} {cs : List Int32} {word : Int32} (hu : ∀ j, u j < 256) (hT : ∀ j, j < s + n → T j = bI (u j)) (hn : s + n ≤ 400) : ∀ {ws : List Nat} {k : Nat}, k ≤ n → (∀ w, w ∈ ws → 97 ≤ w ∧ w ≤ 122) → wd_go T (nI s) (nI (s + n)) (ws.map nI ++ 32 :: cs) word (nI k) = @ite _ (mt u (s + n) (s + k) ws) (Classical.propDecidable _) (some word) (wd_go T (nI s) (nI (s + n)) cs (word + 1) 0)
  | [], k, hk, _ => by
    show (if (32 : Int32) = 32 then (if nI k = nI (s + n) - nI s then some word else wd_go T (nI s) (nI (s + n)) cs (word + 1) 0) else _) = _
    rw [if_pos rfl, pk_sub (by omega)]
    by_cases w : k = n
    · rw [if_pos (by rw [w, show s + n - s = n by omega]), if_pos (show mt u (s + n) (s + k) [] from by show s + k = s + n; omega)]
    · rw [if_neg (fun z => w (by have := (nI_eq (by omega) (by omega)).mp z; omega)), if_neg (show ¬ mt u (s + n) (s + k) [] from fun z => by have : s + k = s + n := z; omega)]
  | w :: ws, k, hk, h => by
    have hw := h w List.mem_cons_self
    have h' : ∀ x, x ∈ ws → 97 ≤ x ∧ x ≤ 122 := fun x hx => h x (List.mem_cons_of_mem _ hx)
    show (if nI w = 32 then _ else if (0 : Int32) ≤ nI k ∧ nI s + nI k < nI (s + n) then ald T 400 (nI s + nI k) >>= fun t => if t = nI w then wd_go T (nI s) (nI (s + n)) (ws.map nI ++ 32 :: cs) word (nI k + 1) else wd_go T (nI s) (nI (s + n)) (ws.map nI ++ 32 :: cs) word (-1) else wd_go T (nI s) (nI (s + n)) (ws.map nI ++ 32 :: cs) word (-1)) = _
    rw [if_neg (fun z => by have := (nI_eq (a := w) (b := 32) (by omega) (by omega)).mp z; omega), nI_add]
    by_cases y : k < n
    · rw [if_pos ⟨nI_pos' (by omega), nI_lt (by omega) (by omega)⟩]
      rw [ald_ok (f := T) (n := 400) (i := s + k) (by omega) (by decide)]
      show (if T (s + k) = nI w then wd_go T (nI s) (nI (s + n)) (ws.map nI ++ 32 :: cs) word (nI k + 1) else wd_go T (nI s) (nI (s + n)) (ws.map nI ++ 32 :: cs) word (-1)) = _
      rw [hT _ (by omega)]
      by_cases z : u (s + k) = w
      · rw [if_pos ((bI_eq (hu _) (by omega)).mpr z), nI_1, wd_one hu hT hn (show k + 1 ≤ n by omega) h']
        by_cases x : mt u (s + n) (s + (k + 1)) ws
        · rw [if_pos x, if_pos (show mt u (s + n) (s + k) (w :: ws) from ⟨by omega, z, x⟩)]
        · rw [if_neg x, if_neg (show ¬ mt u (s + n) (s + k) (w :: ws) from fun q => x q.2.2)]
      · rw [if_neg (fun q => z ((bI_eq (hu _) (by omega)).mp q)), wd_mis hn h', if_neg (show ¬ mt u (s + n) (s + k) (w :: ws) from fun q => z q.2.1)]
    · rw [if_neg (fun q => absurd q.2 (nI_nlt (by omega) (by omega))), wd_mis hn h', if_neg (show ¬ mt u (s + n) (s + k) (w :: ws) from fun q => y (by have := q.1; omega))]
theorem wd_all {s n : Nat} (hu : ∀ j, u j < 256) (hT : ∀ j, j < s + n → T j = bI (u j)) (hn : s + n ≤ 400) (hL : ∀ i, i < n → isL (u (s + i)) = true) : ∀ (Ws : List (List Nat)) (i : Nat), (∀ ws, ws ∈ Ws → ws.length ≤ 8 ∧ ∀ w, w ∈ ws → 97 ≤ w ∧ w ≤ 122) → wd_go T (nI s) (nI (s + n)) (fla Ws) (nI i) 0 = some (nI (if n ≤ 8 then wfd (Ws.map pkl) i (pkd u s n) else 34))
  | [], i, _ => by
    show some (34 : Int32) = some (nI (if n ≤ 8 then 34 else 34))
    split <;> rfl
  | ws :: Ws, i, h => by
    have ⟨h8, hw⟩ := h ws List.mem_cons_self
    have ih := wd_all hu hT hn hL Ws (i + 1) (fun x hx => h x (List.mem_cons_of_mem _ hx))
    have gw : ∀ j, j < ws.length → 97 ≤ ws.getD j 0 ∧ ws.getD j 0 ≤ 122 := fun j hj => by
      rw [List.getD_eq_getElem?_getD, List.getElem?_eq_getElem hj]
      exact hw _ (List.getElem_mem hj)
    have key : mt u (s + n) (s + 0) ws ↔ (n ≤ 8 ∧ pkd u s n = pkl ws) := by
      rw [mt_ix]
      constructor
      · rintro ⟨e, hm⟩
        have e' : n = ws.length := by omega
        refine ⟨by omega, ?_⟩
        unfold pkl
        rw [← e']
        refine pkd_cg fun j hj => ?_
        have := hm j (by omega)
        rw [Nat.add_zero] at this
        rw [Nat.zero_add]; exact this
      · rintro ⟨_, e⟩
        obtain ⟨a, b⟩ := pkd_inj (u := u) (v := fun i => ws.getD i 0) (p := s) (q := 0) (n := n) (m := ws.length) (fun j hj => by have := isL_t.mp (hL j hj); omega) (fun j hj => by have := gw j hj; rw [Nat.zero_add]; omega) e
        refine ⟨by omega, fun j hj => ?_⟩
        have := b j (by omega)
        rw [Nat.zero_add] at this
        exact this
    show wd_go T (nI s) (nI (s + n)) (ws.map nI ++ 32 :: fla Ws) (nI i) (nI 0) = some (nI (if n ≤ 8 then (if pkd u s n = pkl ws then i else wfd (Ws.map pkl) (i + 1) (pkd u s n)) else 34))
    rw [wd_one hu hT hn (Nat.zero_le _) hw]
    by_cases x : mt u (s + n) (s + 0) ws
    · have k := key.mp x
      rw [if_pos x, if_pos k.1, if_pos k.2]
    · rw [if_neg x, nI_1, ih]
      by_cases y : n ≤ 8
      · rw [if_pos y, if_pos y, if_neg (fun z => x (key.mpr ⟨y, z⟩))]
      · rw [if_neg y, if_neg y]
theorem f_26 {s n : Nat} (hu : ∀ j, u j < 256) (hT : ∀ j, j < s + n → cA c11 0 (cR c3 0 rd) j = bI (u j)) (hn : s + n ≤ 400) (hL : ∀ i, i < n → isL (u (s + i)) = true) : F_26 c3 c11 rd (nI s) (nI (s + n)) = some (nI (wk u s n)) := by
  have h := wd_all hu hT hn hL WSL 0 wsl_ok
  rw [wsl_f, wsl_w] at h
  exact h
/-- a piece more -/
theorem f_27 {N : Nat} {x y z : Int32} (hN : N ≤ 400) (e5 : cI c3 5 rd = nI N) : Rn (F_27 c3 rd x y z) (fun r => Kp [2, 3, 4, 5] c3 r ∧ Oth rd c3 r ∧ cI r 5 rd = nI (N + 1) ∧ cA r 2 rd = upd (cA c3 2 rd) N x ∧ cA r 3 rd = upd (cA c3 3 rd) N y ∧ cA r 4 rd = upd (cA c3 4 rd) N z) := by
  unfold F_27
  rw [e5]
  refine rn_b (P := fun r => Kp [2, 3, 4, 5] c3 r ∧ Oth rd c3 r ∧ cI r 5 rd = nI (N + 1) ∧ cA r 2 rd = upd (cA c3 2 rd) N x ∧ cA r 3 rd = upd (cA c3 3 rd) N y ∧ cA r 4 rd = upd (cA c3 4 rd) N z) ?_ (fun t ht => rn_r ht)
  refine rn_n (show ¬ nI 401 ≤ nI N from nI_ge (by omega) (by omega)) (rn_st (by omega) (by decide) ?_)
  rw [show cI (sA c3 2 rd (upd (cA c3 2 rd) N x)) 5 rd = nI N from e5]
  refine rn_st (by omega) (by decide) ?_
  rw [show cI (sA (sA c3 2 rd (upd (cA c3 2 rd) N x)) 3 rd (upd (cA (sA c3 2 rd (upd (cA c3 2 rd) N x)) 3 rd) N y)) 5 rd = nI N from e5]
  refine rn_st (by omega) (by decide) (rn_s (rn_r ⟨kp_tr (kp_A (by decide)) (kp_tr (kp_A (by decide)) (kp_tr (kp_A (by decide)) (kp_I (by decide)))), oth_tr oth_A (oth_tr oth_A (oth_tr oth_A oth_I)), ?_, ?_, ?_, ?_⟩))
  · rw [cI_same]
    show cI c3 5 rd + 1 = _
    rw [e5, nI_1]
  · simp only [cI_sI, cI_sJ, cI_sR, cI_sA, cI_sB, cI_sQ, cR_sI, cR_sJ, cR_sR, cR_sA, cR_sB, cR_sQ, cA_sI, cA_sJ, cA_sR, cA_sA, cA_sB, cA_sQ, Nat.reduceEqDiff, false_and, and_false, and_true, true_and, if_false, if_true, and_self, ↓reduceIte]
  · simp only [cI_sI, cI_sJ, cI_sR, cI_sA, cI_sB, cI_sQ, cR_sI, cR_sJ, cR_sR, cR_sA, cR_sB, cR_sQ, cA_sI, cA_sJ, cA_sR, cA_sA, cA_sB, cA_sQ, Nat.reduceEqDiff, false_and, and_false, and_true, true_and, if_false, if_true, and_self, ↓reduceIte]
  · simp only [cI_sI, cI_sJ, cI_sR, cI_sA, cI_sB, cI_sQ, cR_sI, cR_sJ, cR_sR, cR_sA, cR_sB, cR_sQ, cA_sI, cA_sJ, cA_sR, cA_sA, cA_sB, cA_sQ, Nat.reduceEqDiff, false_and, and_false, and_true, true_and, if_false, if_true, and_self, ↓reduceIte]
end Cut
