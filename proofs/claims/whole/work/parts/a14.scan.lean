/-! ===== texts: the reference looks along them ===== -/
/-- where the reference stands -/
def RP (c : Cl) (B2 : Nat) (u : Nat → Nat) (l n : Nat) : Prop := (∀ j, j < l → cA c 0 B2 j = bI (u j)) ∧ cI c 1 B2 = nI l ∧ cI c 8 B2 = nI n ∧ n ≤ l
theorem wfd_at : ∀ (ws : List Nat) (k v i : Nat), k + ws.length ≤ 34 → i < ws.length → wfd ws k v = k + i → v = ws.getD i 0
  | [], _, _, i, _, hi, _ => absurd hi (Nat.not_lt_zero _)
  | w :: ws, k, v, i, hk, hi, e => by
    have hk' : k + (ws.length + 1) ≤ 34 := hk
    have hi' : i < ws.length + 1 := hi
    have e' : (if v = w then k else wfd ws (k + 1) v) = k + i := e
    by_cases h : v = w
    · rw [if_pos h] at e'
      have : i = 0 := by omega
      subst this
      exact h
    · rw [if_neg h] at e'
      cases i with
      | zero =>
        exfalso
        rcases wfd_le ws (k + 1) v with z | z <;> omega
      | succ i => exact wfd_at ws (k + 1) v i (by omega) (by omega) (by omega)
theorem wfd_of : ∀ (ws : List Nat) (k v i : Nat), ws.Nodup → i < ws.length → v = ws.getD i 0 → wfd ws k v = k + i
  | [], _, _, i, _, hi, _ => absurd hi (Nat.not_lt_zero _)
  | w :: ws, k, v, i, hn, hi, e => by
    have hi' : i < ws.length + 1 := hi
    obtain ⟨n1, n2⟩ := List.nodup_cons.mp hn
    show (if v = w then k else wfd ws (k + 1) v) = k + i
    cases i with
    | zero =>
      have e' : v = w := e
      rw [if_pos e']; rfl
    | succ i =>
      have e' : v = ws.getD i 0 := e
      have hm : v ∈ ws := by
        rw [e', List.getD_eq_getElem?_getD, List.getElem?_eq_getElem (by omega)]
        exact List.getElem_mem _
      rw [if_neg (fun z => n1 (by rw [← z]; exact hm)), wfd_of ws (k + 1) v i n2 (by omega) e']
      omega
/-- a byte more behind a word's number -/
theorem shb8 {x b : Nat} (hx : x * 256 + 256 ≤ 2 ^ 64) (hb : b < 256) : (lN x <<< ((8 : Int32).toInt64 &&& 63)) ||| lN b = lN (x * 256 + b) := by
  have h8 : ((8 : Int32).toInt64 &&& 63 : Int64) = 8 := by decide
  rw [h8]
  apply Int64.toBitVec_inj.mp
  rw [Int64.toBitVec_or, Int64.toBitVec_shiftLeft]
  apply BitVec.eq_of_toNat_eq
  have e1 : ∀ n : Nat, n < 2 ^ 64 → (lN n).toBitVec.toNat = n := fun n hn => by
    show (Int64.ofNat n).toBitVec.toNat = n
    rw [Int64.toBitVec_ofNat', BitVec.toNat_ofNat, Nat.mod_eq_of_lt hn]
  have e2 : ((8 : Int64).toBitVec.smod 64) = 8#64 := by decide
  rw [BitVec.toNat_or, e2, e1 _ (by omega), e1 _ (by omega)]
  show ((lN x).toBitVec <<< (8#64).toNat).toNat ||| b = _
  rw [BitVec.toNat_shiftLeft, e1 _ (by omega)]
  show (x <<< 8) % 2 ^ 64 ||| b = x * 256 + b
  rw [Nat.shiftLeft_eq, Nat.mod_eq_of_lt (by omega), ← Nat.shiftLeft_eq, ← Nat.shiftLeft_add_eq_or_of_lt (by omega), Nat.shiftLeft_eq]
theorem WL_nd : WL.Nodup := by decide +kernel
section Scan
variable {c : Cl} {B2 : Nat} {u : Nat → Nat} {l n : Nat}
theorem RP_k {Ks : List Nat} {c' : Cl} (k : Kp Ks c c') (h0 : 0 ∉ Ks) (h1 : 1 ∉ Ks) (h8 : 8 ∉ Ks) (h : RP c B2 u l n) : RP c' B2 u l n := ⟨fun j hj => by rw [(k 0 h0).2.2.2.1]; exact h.1 j hj, by rw [(k 1 h1).1]; exact h.2.1, by rw [(k 8 h8).1]; exact h.2.2.1, h.2.2.2⟩
theorem RP_n {c' : Cl} {m : Nat} (k : Kp [8] c c') (h : RP c B2 u l n) (e : cI c' 8 B2 = nI m) (hm : m ≤ l) : RP c' B2 u l m := ⟨fun j hj => by rw [(k 0 (by decide)).2.2.2.1]; exact h.1 j hj, by rw [(k 1 (by decide)).1]; exact h.2.1, e, hm⟩
/-- a word is the word with a number -/
theorem kd_w {p i : Nat} (hu : ∀ j, u j < 256) (hi : i < 23) : kd u l p = i ↔ (p < l ∧ 0 < le u l p - p ∧ le u l p - p ≤ 8 ∧ pkd u p (le u l p - p) = WL.getD i 0) := by
  have WLl : WL.length = 23 := rfl
  constructor
  · intro h
    unfold kd at h
    by_cases w : p < l
    · rw [if_pos w] at h
      by_cases d : isD (u p) = true
      · rw [if_pos d] at h; split at h <;> omega
      · rw [if_neg d] at h
        by_cases e : isL (u p) = true
        · rw [if_pos e] at h
          have g : p + 1 ≤ le u l p := by
            have := rr_s (f := fun j => isL (u j)) w e
            show p + 1 ≤ rr (fun j => isL (u j)) l p
            rw [this]; exact rr_ge
          unfold wk at h
          by_cases z : le u l p - p ≤ 8
          · rw [if_pos z] at h
            exact ⟨w, by omega, z, wfd_at WL 0 _ i (by omega) (by omega) (by omega)⟩
          · rw [if_neg z] at h; omega
        · rw [if_neg e] at h
          split at h
          · split at h <;> omega
          · omega
    · rw [if_neg w] at h; omega
  · rintro ⟨h1, h2, h3, h4⟩
    have e : isL (u p) = true := by
      refine Classical.byContradiction fun z => ?_
      have : le u l p = p := rr_e (fun _ => by cases h : isL (u p); rfl; exact absurd h z)
      omega
    have d : ¬ isD (u p) = true := fun z => by
      have a := isD_t.mp z
      have b := isL_t.mp e
      omega
    unfold kd
    rw [if_pos h1, if_neg d, if_pos e]
    unfold wk
    rw [if_pos h3, wfd_of WL 0 _ i WL_nd (by omega) h4]
    omega
theorem f_176 {w p : Nat} : Rn (F_176 c B2 (nI w) (nI p)) (fun r => r.1 = 0 ∧ Kp [9] c r.2 ∧ (cI c 9 B2 = 0 → cI r.2 9 B2 = nI (flt p w)) ∧ (¬ cI c 9 B2 = 0 → cI r.2 9 B2 = cI c 9 B2)) := by
  unfold F_176
  by_cases z : cI c 9 B2 = 0
  · refine rn_b (P := fun r => r = sI c 9 B2 ((1 + 8 * nI p) + nI w)) (rn_p z (rn_s (rn_r rfl))) (fun r hr => rn_r ⟨rfl, ?_, fun _ => ?_, fun y => absurd z y⟩)
    · subst hr; exact kp_I (by decide)
    · subst hr
      show cI (sI c 9 B2 _) 9 B2 = _
      rw [cI_same, show (8 : Int32) * nI p = nI (8 * p) from pk_mul 8 p, show (1 : Int32) + nI (8 * p) = nI (1 + 8 * p) from nI_add 1 _, nI_add]
      rfl
  · refine rn_b (P := fun r => r = c) (rn_n z (rn_r rfl)) (fun r hr => rn_r ⟨rfl, ?_, fun y => absurd y z, fun _ => ?_⟩)
    · subst hr; exact kp_rf _ _
    · subst hr; rfl
theorem gl_177 (hu : ∀ j, u j < 256) (l4 : l ≤ 400) {q : Nat} : ∀ (m n : Nat) (c' : Cl), n + m = q → q = sk u l n → Kp [8] c c' → RP c' B2 u l n → Rn (G_177 B2 0 [] [] [] c') (fun r => Kp [8] c r.2 ∧ RP r.2 B2 u l q ∧ r.1 = if q < l then nI (u q) else -1)
  | 0, n, c', hq, hs, hK, hR => by
    have : n = q := by omega
    subst this
    obtain ⟨h0, h1, h8, hl⟩ := id hR
    have l1 : Rn (G_177 B2 1 [] [] [] c') (fun r => Kp [8] c r.2 ∧ RP r.2 B2 u l n ∧ r.1 = if n < l then nI (u n) else -1) := by
      rw [G_177, h1, h8]
      by_cases w : n < l
      · rw [if_pos w]
        refine rn_e (v := nI (u n)) (in_neg (nI_ge w (by omega)) (ob_mk ((ald_ok (by omega) (by decide)).trans (by rw [h0 n w])) (by rw [bI_255 _ (hu n)]))) (rn_r ⟨hK, hR, rfl⟩)
      · rw [if_neg w]
        exact rn_e (v := (-1 : Int32)) (in_pos (nI_le (by omega) (by omega)) rfl) (rn_r ⟨hK, hR, rfl⟩)
    rw [G_177, h1, h8]
    by_cases w : n < l
    · refine rn_n (nI_ge w (by omega)) (rn_ld (by omega) (by decide) ?_)
      rw [h0 n w]
      have nb := sk_nb (u := u) (l := l) (p := n) (by rw [← hs]; exact w)
      rw [← hs] at nb
      exact rn_n (fun z => nb ((bI_eq (hu n) (c := 32) (by decide)).mp z)) l1
    · exact rn_p (nI_le (by omega) (by omega)) l1
  | m + 1, n, c', hq, hs, hK, hR => by
    obtain ⟨h0, h1, h8, hl⟩ := id hR
    have ql : q ≤ l := by rw [hs]; exact sk_le hl
    have b : u n = 32 := of_decide_eq_true (rr_in (f := fun j => decide (u j = 32)) (l := l) (k := n) (j := n) (Nat.le_refl _) (show n < sk u l n by omega))
    have es : sk u l n = sk u l (n + 1) := rr_s (by omega) (decide_eq_true b)
    rw [G_177, h1, h8]
    refine rn_n (nI_ge (by omega) (by omega)) (rn_ld (by omega) (by decide) ?_)
    rw [h0 n (by omega)]
    refine rn_p ((bI_eq (hu n) (c := 32) (by decide)).mpr b) (rn_s ?_)
    exact gl_177 hu l4 m (n + 1) _ (by omega) (by rw [hs, es]) (kp_tr hK (kp_I (by decide))) (RP_n (kp_I (by decide)) hR (by rw [cI_same, nI_1]) (by omega))
theorem f_177 (hu : ∀ j, u j < 256) (l4 : l ≤ 400) (hR : RP c B2 u l n) : Rn (F_177 c B2) (fun r => Kp [8] c r.2 ∧ RP r.2 B2 u l (sk u l n) ∧ r.1 = if sk u l n < l then nI (u (sk u l n)) else -1) := by
  have g : n ≤ sk u l n := sk_ge
  unfold F_177
  exact gl_177 hu l4 (sk u l n - n) n c (by omega) rfl (kp_rf _ _) hR
theorem zb_0 : zb 0 = some 0 := rfl
theorem zb_1 : zb 1 = some 1 := rfl
theorem f_178 {k : Nat} (hu : ∀ j, u j < 256) (l4 : l ≤ 400) (hk : k < 1000) (hR : RP c B2 u l n) : F_178 c B2 (nI k) = some (if k < l ∧ isD (u k) = true then 1 else 0) := by
  obtain ⟨h0, h1, h8, hl⟩ := id hR
  unfold F_178
  rw [h1]
  by_cases w : k < l
  · have a := (ald_ok (f := cA c 0 B2) (n := 400) (i := k) (by omega) (by decide)).trans (by rw [h0 k w])
    by_cases d : isD (u k) = true
    · have i := isD_t.mp d
      rw [show (if k < l ∧ isD (u k) = true then (1 : Int32) else 0) = 1 from if_pos ⟨w, d⟩]
      exact ob_mk (v := (1 : Int32)) (in_neg (nI_ge w (by omega)) (ob_mk a (in_neg (fun z => by have := (bI_lt (hu k) (c := 48) (by decide)).mp z; omega) (ob_mk a (in_neg (fun z => by have := (bI_gt (hu k) (c := 57) (by decide)).mp z; omega) rfl))))) rfl
    · have i : ¬ (48 ≤ u k ∧ u k ≤ 57) := fun z => d (isD_t.mpr z)
      rw [show (if k < l ∧ isD (u k) = true then (1 : Int32) else 0) = 0 from if_neg (fun z => d z.2)]
      refine ob_mk (v := (0 : Int32)) (in_neg (nI_ge w (by omega)) (ob_mk a ?_)) rfl
      by_cases z : bI (u k) < 48
      · exact in_pos z rfl
      · refine in_neg z (ob_mk a (in_pos ?_ rfl))
        have b : ¬ (u k < 48 ∨ 128 ≤ u k) := fun y => z ((bI_lt (hu k) (c := 48) (by decide)).mpr y)
        exact (bI_gt (hu k) (c := 57) (by decide)).mpr (by omega)
  · rw [show (if k < l ∧ isD (u k) = true then (1 : Int32) else 0) = 0 from if_neg (fun z => w z.1)]
    exact ob_mk (v := (0 : Int32)) (in_pos (nI_le (by omega) (by omega)) rfl) rfl
theorem f_179 {k : Nat} (hu : ∀ j, u j < 256) (l4 : l ≤ 400) (hk : k < 1000) (hR : RP c B2 u l n) : F_179 c B2 (nI k) = some (if k < l ∧ isL (u k) = true then 1 else 0) := by
  obtain ⟨h0, h1, h8, hl⟩ := id hR
  unfold F_179
  rw [h1]
  by_cases w : k < l
  · have a := (ald_ok (f := cA c 0 B2) (n := 400) (i := k) (by omega) (by decide)).trans (by rw [h0 k w])
    by_cases d : isL (u k) = true
    · have i := isL_t.mp d
      rw [show (if k < l ∧ isL (u k) = true then (1 : Int32) else 0) = 1 from if_pos ⟨w, d⟩]
      exact ob_mk (v := (1 : Int32)) (in_neg (nI_ge w (by omega)) (ob_mk a (in_neg (fun z => by have := (bI_lt (hu k) (c := 97) (by decide)).mp z; omega) (ob_mk a (in_neg (fun z => by have := (bI_gt (hu k) (c := 122) (by decide)).mp z; omega) rfl))))) rfl
    · have i : ¬ (97 ≤ u k ∧ u k ≤ 122) := fun z => d (isL_t.mpr z)
      rw [show (if k < l ∧ isL (u k) = true then (1 : Int32) else 0) = 0 from if_neg (fun z => d z.2)]
      refine ob_mk (v := (0 : Int32)) (in_neg (nI_ge w (by omega)) (ob_mk a ?_)) rfl
      by_cases z : bI (u k) < 97
      · exact in_pos z rfl
      · refine in_neg z (ob_mk a (in_pos ?_ rfl))
        have b : ¬ (u k < 97 ∨ 128 ≤ u k) := fun y => z ((bI_lt (hu k) (c := 97) (by decide)).mpr y)
        exact (bI_gt (hu k) (c := 122) (by decide)).mpr (by omega)
  · rw [show (if k < l ∧ isL (u k) = true then (1 : Int32) else 0) = 0 from if_neg (fun z => w z.1)]
    exact ob_mk (v := (0 : Int32)) (in_pos (nI_le (by omega) (by omega)) rfl) rfl
theorem gl_181 (hu : ∀ j, u j < 256) (l4 : l ≤ 400) {q : Nat} : ∀ (m n : Nat) (c' : Cl), n + m = q → q = le u l n → Kp [8] c c' → RP c' B2 u l n → Rn (G_181 B2 0 [] [] [] c') (fun r => Kp [8] c r ∧ RP r B2 u l q)
  | 0, n, c', hq, hs, hK, hR => by
    have : n = q := by omega
    subst this
    obtain ⟨h0, h1, h8, hl⟩ := id hR
    have nb : ¬ (n < l ∧ isL (u n) = true) := fun z => by
      have e := rr_s (f := fun j => isL (u j)) z.1 z.2
      have g := rr_ge (f := fun j => isL (u j)) (l := l) (k := n + 1)
      have : n = rr (fun j => isL (u j)) l n := hs
      omega
    rw [G_181, h8]
    refine rn_e (f_179 hu l4 (by omega) hR) ?_
    rw [if_neg nb]
    exact rn_p rfl (rn_r ⟨hK, hR⟩)
  | m + 1, n, c', hq, hs, hK, hR => by
    obtain ⟨h0, h1, h8, hl⟩ := id hR
    have ql : q ≤ l := by rw [hs]; exact rr_le hl
    have b : isL (u n) = true := rr_in (f := fun j => isL (u j)) (l := l) (k := n) (j := n) (Nat.le_refl _) (show n < le u l n by omega)
    have es : le u l n = le u l (n + 1) := rr_s (f := fun j => isL (u j)) (by omega) b
    rw [G_181, h8]
    refine rn_e (f_179 hu l4 (by omega) hR) ?_
    rw [show (if n < l ∧ isL (u n) = true then (1 : Int32) else 0) = 1 from if_pos ⟨by omega, b⟩]
    refine rn_n (by decide) (rn_s ?_)
    exact gl_181 hu l4 m (n + 1) _ (by omega) (by rw [hs, es]) (kp_tr hK (kp_I (by decide))) (RP_n (kp_I (by decide)) hR (by rw [cI_same, nI_1]) (by omega))
theorem f_181 (hu : ∀ j, u j < 256) (l4 : l ≤ 400) (hR : RP c B2 u l n) : Rn (F_181 c B2) (fun r => Kp [8] c r ∧ RP r B2 u l (le u l n)) := by
  have g : n ≤ le u l n := rr_ge
  unfold F_181
  exact gl_181 hu l4 (le u l n - n) n c (by omega) rfl (kp_rf _ _) hR
/-- a word here -/
theorem gl_180 {w p : Nat} (hu : ∀ j, u j < 256) (l4 : l ≤ 400) (hw : w < 2 ^ 63) (hR : RP c B2 u l p) : ∀ (m j : Nat), p + j + m = le u l p → G_180 c B2 0 [nI j] [lN w, lN (pkd u p (min j 8))] [] = some (if 0 < le u l p - p ∧ le u l p - p ≤ 8 ∧ pkd u p (le u l p - p) = w then 1 else 0, c)
  | 0, j, hj => by
    obtain ⟨h0, h1, h8, hl⟩ := id hR
    have ll : le u l p ≤ l := rr_le hl
    have nb : ¬ (p + j < l ∧ isL (u (p + j)) = true) := fun z => by
      have o := rr_out (f := fun j => isL (u j)) (l := l) (k := p) (show le u l p < l by omega)
      have e : rr (fun j => isL (u j)) l p = p + j := show le u l p = p + j by omega
      rw [e] at o
      have o' : isL (u (p + j)) = false := o
      rw [o'] at z
      exact Bool.noConfusion z.2
    have f9 := f_179 (k := p + j) hu l4 (by omega) hR
    rw [if_neg nb] at f9
    have lj : le u l p - p = j := by omega
    rw [G_180, h8, nI_add, lj]
    refine ob_mk f9 (in_pos rfl ?_)
    by_cases y : 0 < j
    · by_cases x : j ≤ 8
      · have pl : pkd u p j < 2 ^ 63 := by
          have h := pkd_lt (u := u) (p := p) (n := j) (fun i _ => hu _)
          by_cases j8 : j = 8
          · -- the eighth: letters are below 128
            subst j8
            have e : pkd u p 8 = pkd u p 7 * 256 + u (p + 7) := rfl
            have e1 : pkd u p 7 = pkd u p 6 * 256 + u (p + 6) := rfl
            have e2 : pkd u p 6 = pkd u p 5 * 256 + u (p + 5) := rfl
            have e3 : pkd u p 5 = pkd u p 4 * 256 + u (p + 4) := rfl
            have e4 : pkd u p 4 = pkd u p 3 * 256 + u (p + 3) := rfl
            have e5 : pkd u p 3 = pkd u p 2 * 256 + u (p + 2) := rfl
            have e6 : pkd u p 2 = pkd u p 1 * 256 + u (p + 1) := rfl
            have e7 : pkd u p 1 = 0 * 256 + u (p + 0) := rfl
            have i0 := isL_t.mp (rr_in (f := fun j => isL (u j)) (l := l) (k := p) (j := p + 0) (by omega) (show p + 0 < le u l p by omega))
            have a1 := hu (p + 1)
            have a2 := hu (p + 2)
            have a3 := hu (p + 3)
            have a4 := hu (p + 4)
            have a5 := hu (p + 5)
            have a6 := hu (p + 6)
            have a7 := hu (p + 7)
            omega
          · have : 256 ^ j ≤ 256 ^ 7 := Nat.pow_le_pow_right (by decide) (by omega)
            have e : (256 : Nat) ^ 7 < 2 ^ 63 := by decide
            omega
        rw [show min j 8 = j by omega]
        by_cases v : pkd u p j = w
        · rw [show (if 0 < j ∧ j ≤ 8 ∧ pkd u p j = w then (1 : Int32) else 0) = 1 from if_pos ⟨y, x, v⟩]
          exact ob_mk (v := (1 : Int32)) (in_neg (nI_nle y (by omega)) (in_neg (show ¬ nI 9 ≤ nI j from nI_ge (by omega) (by decide)) (in_pos ((lg_cmp_eq _ _).mpr (by rw [v])) rfl))) rfl
        · rw [show (if 0 < j ∧ j ≤ 8 ∧ pkd u p j = w then (1 : Int32) else 0) = 0 from if_neg (fun z => v z.2.2)]
          exact ob_mk (v := (0 : Int32)) (in_neg (nI_nle y (by omega)) (in_neg (show ¬ nI 9 ≤ nI j from nI_ge (by omega) (by decide)) (in_neg (fun z => v ((pk_lEQ pl hw).mp ((lg_cmp_eq _ _).mp z))) rfl))) rfl
      · rw [show (if 0 < j ∧ j ≤ 8 ∧ pkd u p j = w then (1 : Int32) else 0) = 0 from if_neg (fun z => x z.2.1)]
        exact ob_mk (v := (0 : Int32)) (in_neg (nI_nle y (by omega)) (in_pos (show nI 9 ≤ nI j from nI_le (by omega) (by omega)) rfl)) rfl
    · rw [show (if 0 < j ∧ j ≤ 8 ∧ pkd u p j = w then (1 : Int32) else 0) = 0 from if_neg (fun z => y z.1)]
      have : j = 0 := by omega
      subst this
      exact ob_mk (v := (0 : Int32)) (in_pos (by decide) rfl) rfl
  | m + 1, j, hj => by
    obtain ⟨h0, h1, h8, hl⟩ := id hR
    have ll : le u l p ≤ l := rr_le hl
    have b : isL (u (p + j)) = true := rr_in (f := fun j => isL (u j)) (l := l) (k := p) (j := p + j) (by omega) (show p + j < le u l p by omega)
    have f9 := f_179 (k := p + j) hu l4 (by omega) hR
    rw [if_pos ⟨by omega, b⟩] at f9
    have ih := gl_180 hu l4 hw hR m (j + 1) (by omega)
    have lb := isL_t.mp b
    rw [G_180, h8, nI_add]
    refine ob_mk f9 (in_neg (by decide) (ob_mk (v := lN (pkd u p (min (j + 1) 8))) ?_ (by rw [nI_1]; exact ih)))
    by_cases w8 : 8 ≤ j
    · rw [show min (j + 1) 8 = 8 by omega, show min j 8 = 8 by omega]
      exact in_pos (show nI 8 ≤ nI j from nI_le w8 (by omega)) rfl
    · rw [show min (j + 1) 8 = j + 1 by omega, show min j 8 = j by omega]
      refine in_neg (show ¬ nI 8 ≤ nI j from nI_ge (by omega) (by decide)) (ob_mk ((ald_ok (by omega) (by decide)).trans (by rw [h0 _ (by omega), bI_p (by omega)])) ?_)
      have pb := pkd_lt (u := u) (p := p) (n := j) (fun i _ => hu _)
      have pj : 256 ^ j ≤ 256 ^ 7 := Nat.pow_le_pow_right (by decide) (by omega)
      have e7 : (256 : Nat) ^ 7 * 256 ≤ 2 ^ 64 := by decide
      rw [nI_l (by omega), shb8 (by omega) (by omega)]
      rfl
theorem f_180 {i : Nat} {w : Int64} (hu : ∀ j, u j < 256) (l4 : l ≤ 400) (hi : i < 23) (hw : w = lN (WL.getD i 0)) (hR : RP c B2 u l n) : Rn (F_180 c B2 w) (fun r => Kp [8] c r.2 ∧ RP r.2 B2 u l (sk u l n) ∧ r.1 = if kd u l (sk u l n) = i then 1 else 0) := by
  unfold F_180
  refine rn_b (f_177 hu l4 hR) (fun r ⟨k, h, _⟩ => ?_)
  have wb : WL.getD i 0 < 2 ^ 63 := by
    have : ∀ i, i < 23 → WL.getD i 0 < 2 ^ 63 := by decide
    exact this i hi
  have g0 : sk u l n ≤ le u l (sk u l n) := rr_ge
  have g := gl_180 (w := WL.getD i 0) hu l4 wb h (le u l (sk u l n) - sk u l n) 0 (by omega)
  rw [hw]
  refine rn_q g ⟨k, h, ?_⟩
  by_cases z : kd u l (sk u l n) = i
  · rw [if_pos z]
    exact if_pos ((kd_w hu hi).mp z).2
  · rw [if_neg z]
    exact if_neg (fun y => z ((kd_w hu hi).mpr ⟨by
      refine Classical.byContradiction fun x => ?_
      have : le u l (sk u l n) = sk u l n := rr_e (fun q => absurd q x)
      omega, y⟩))
end Scan
