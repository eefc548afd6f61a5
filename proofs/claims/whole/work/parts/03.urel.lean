/-! ===== how the small machine's locals and cells lie in the machine's ===== -/
def u_prs (L : List (Option Value)) : List (Nat × Value) := (List.range L.length).filterMap (fun i => (L.getD i none).map (fun v => (i, v)))
theorem u_prs_mem {L : List (Option Value)} {q : Nat × Value} : q ∈ u_prs L ↔ L[q.1]? = some (some q.2) := by
  unfold u_prs
  rw [List.mem_filterMap]
  constructor
  · rintro ⟨i, hi, h⟩
    rw [List.mem_range] at hi
    rw [Option.map_eq_some_iff] at h
    obtain ⟨v, hv, rfl⟩ := h
    rw [List.getD_eq_getElem?_getD] at hv
    rw [List.getElem?_eq_getElem hi] at hv ⊢
    simpa using hv
  · intro h
    have hi : q.1 < L.length := by
      rcases Nat.lt_or_ge q.1 L.length with g | g
      · exact g
      · rw [List.getElem?_eq_none g] at h; cases h
    refine ⟨q.1, List.mem_range.mpr hi, ?_⟩
    rw [List.getD_eq_getElem?_getD, h]
    rfl
def u_LR (nL : Nat) (L : List (Option Value)) (ls : Array Slot) : Prop := L.length = nL ∧ lv_has ls nL (u_prs L)
theorem u_LR.ld {nL : Nat} {L : List (Option Value)} {ls : Array Slot} (h : u_LR nL L ls) {i : Nat} {v : Value} (hv : u_ld L i = some v) : ls[i]? = some (.val v) := by
  refine h.2.2.2 (i, v) (u_prs_mem.mpr ?_)
  unfold u_ld at hv
  rw [List.getD_eq_getElem?_getD] at hv
  rcases hq : L[i]? with _ | w
  · rw [hq] at hv; cases hv
  · rw [hq] at hv; simp at hv; rw [hv]
theorem u_LR.fg {nL : Nat} {L L' : List (Option Value)} {ls : Array Slot} (h : u_LR nL L ls) (hf : u_fg L L') : u_LR nL L' ls :=
  ⟨hf.1.trans h.1, h.2.1, h.2.2.1, fun q hq => h.2.2.2 q (u_prs_mem.mpr (hf.2 q.1 q.2 (u_prs_mem.mp hq)))⟩
theorem u_cl_len (L : List (Option Value)) (i : Nat) : (u_cl L i).length = L.length := by
  unfold u_cl
  split
  · rfl
  · split <;> simp
theorem u_cl_get {L : List (Option Value)} {i j : Nat} {w : Value} (h : (u_cl L i)[j]? = some (some w)) : L[j]? = some (some w) ∧ ¬ (j + 1 = i ∧ w.category = 2) := by
  unfold u_cl at h
  split at h
  · exact ⟨h, fun q => by omega⟩
  · rename_i k
    rw [List.getD_eq_getElem?_getD] at h
    by_cases hj : j = k
    · subst hj
      split at h
      · simp [List.getElem?_set] at h
      · simp [List.getElem?_set] at h
      · rename_i h1 h2
        refine ⟨h, fun q => ?_⟩
        rw [h] at h1 h2
        cases w with
        | long x => exact h1 x rfl
        | double x => exact h2 x rfl
        | int _ => simp [Value.category] at q
        | float _ => simp [Value.category] at q
        | null => simp [Value.category] at q
        | ref _ => simp [Value.category] at q
        | retAddr _ => simp [Value.category] at q
    · have hk : ¬ k = j := fun q => hj q.symm
      split at h
      · rw [List.getElem?_set, if_neg hk] at h; exact ⟨h, fun q => by omega⟩
      · rw [List.getElem?_set, if_neg hk] at h; exact ⟨h, fun q => by omega⟩
      · exact ⟨h, fun q => by omega⟩
theorem u_LR.st1 {nL : Nat} {L : List (Option Value)} {ls' : Array Slot} {i : Nat} {v : Value} (hL : L.length = nL) (hi : i < nL) (h : lv_has ls' nL ((i, v) :: (u_prs L).filter (fun q => !(q.1 == i) && !(q.1 + 1 == i && q.2.category == 2)))) : u_LR nL (u_st1 L i v) ls' := by
  refine ⟨by unfold u_st1; rw [List.length_set, u_cl_len, hL], h.1, h.2.1, fun q hq => h.2.2 q ?_⟩
  replace hq := u_prs_mem.mp hq
  unfold u_st1 at hq
  rw [List.getElem?_set] at hq
  by_cases hj : i = q.1
  · rw [if_pos hj, u_cl_len, hL, if_pos hi] at hq
    obtain ⟨j, w⟩ := q
    simp at hq hj
    subst hj; subst hq
    exact List.mem_cons_self
  · rw [if_neg hj] at hq
    obtain ⟨g1, g2⟩ := u_cl_get hq
    refine List.mem_cons_of_mem _ (List.mem_filter.mpr ⟨u_prs_mem.mpr g1, ?_⟩)
    simp only [Bool.and_eq_true, Bool.not_eq_true', beq_eq_false_iff_ne, ne_eq, Bool.and_eq_false_iff]
    refine ⟨fun z => hj z.symm, ?_⟩
    by_cases z : q.1 + 1 = i
    · exact Or.inr fun y => g2 ⟨z, y⟩
    · exact Or.inl z
theorem u_LR.st2 {nL : Nat} {L : List (Option Value)} {ls' : Array Slot} {i : Nat} {v : Value} (hL : L.length = nL) (hi : i + 1 < nL) (h : lv_has ls' nL ((i, v) :: (u_prs L).filter (fun q => !(q.1 == i) && (!(q.1 == i + 1) && !(q.1 + 1 == i && q.2.category == 2))))) : u_LR nL (u_st2 L i v) ls' := by
  refine ⟨by unfold u_st2; rw [List.length_set, List.length_set, u_cl_len, hL], h.1, h.2.1, fun q hq => h.2.2 q ?_⟩
  replace hq := u_prs_mem.mp hq
  unfold u_st2 at hq
  rw [List.getElem?_set] at hq
  by_cases hj1 : i + 1 = q.1
  · rw [if_pos hj1, List.length_set, u_cl_len, hL, if_pos hi] at hq
    cases hq
  · rw [if_neg hj1, List.getElem?_set] at hq
    by_cases hj : i = q.1
    · rw [if_pos hj, u_cl_len, hL, if_pos (by omega)] at hq
      obtain ⟨j, w⟩ := q
      simp at hq hj
      subst hj; subst hq
      exact List.mem_cons_self
    · rw [if_neg hj] at hq
      obtain ⟨g1, g2⟩ := u_cl_get hq
      refine List.mem_cons_of_mem _ (List.mem_filter.mpr ⟨u_prs_mem.mpr g1, ?_⟩)
      simp only [Bool.and_eq_true, Bool.not_eq_true', beq_eq_false_iff_ne, ne_eq, Bool.and_eq_false_iff]
      refine ⟨fun z => hj z.symm, fun z => hj1 z.symm, ?_⟩
      by_cases z : q.1 + 1 = i
      · exact Or.inr fun y => g2 ⟨z, y⟩
      · exact Or.inl z
/-! cells -/
def u_ce (cA : Nat → ClassId) (e : UE) : va_E := match e with
  | .inl x => .inl (cA x.1, x.2)
  | .inr o => .inr o
def u_w (base : Nat) (cA : Nat → ClassId) (h : UH) : va_W := va_pl (List.range' base (h.2.1 - base)) (fun a => u_ce cA (h.1 a))
theorem u_w_at {base : Nat} {cA : Nat → ClassId} {h : UH} {a : Nat} (h1 : base ≤ a) (h2 : a < h.2.1) : ∃ k : Nat, (u_w base cA h)[k]? = some (a, u_ce cA (h.1 a)) := by
  have hm : a ∈ List.range' base (h.2.1 - base) := by
    rw [List.mem_range'_1]; omega
  exact va_pl_get (X := []) hm
theorem u_w_get {base : Nat} {cA : Nat → ClassId} {h : UH} {k : Nat} {q : Nat × va_E} (hk : (u_w base cA h)[k]? = some q) : q = (base + k, u_ce cA (h.1 (base + k))) ∧ base + k < h.2.1 := by
  unfold u_w va_pl at hk
  rw [List.getElem?_map, Option.map_eq_some_iff] at hk
  obtain ⟨a, ha, rfl⟩ := hk
  have hlt : k < h.2.1 - base := by
    rcases Nat.lt_or_ge k (h.2.1 - base) with g | g
    · exact g
    · rw [List.getElem?_eq_none (by simpa using g)] at ha; cases ha
  rw [List.getElem?_range' hlt] at ha
  simp at ha; subst ha; exact ⟨rfl, by omega⟩
theorem u_w_D (base : Nat) (cA : Nat → ClassId) (h : UH) : va_D (fun q => base ≤ q) (u_w base cA h) := by
  refine ⟨fun i j p q hp hq e => ?_, fun k q hk => ?_⟩
  · rw [(u_w_get hp).1, (u_w_get hq).1] at e
    simp at e; exact e
  · rw [(u_w_get hk).1]; exact Nat.le_add_right _ _
theorem u_w_set {base : Nat} {cA : Nat → ClassId} {h : UH} {k a : Nat} {e0 : va_E} {e : UE} (hk : (u_w base cA h)[k]? = some (a, e0)) : (u_w base cA h).set k (a, u_ce cA e) = u_w base cA (va_up h.1 a e, h.2.1, h.2.2) := by
  obtain ⟨g1, g2⟩ := u_w_get hk
  have hm : a ∈ List.range' base (h.2.1 - base) := by
    rw [List.mem_range'_1]; cases g1; omega
  have hk' : ([] ++ va_pl (List.range' base (h.2.1 - base)) (fun a => u_ce cA (h.1 a)))[k]? = some (a, u_ce cA (h.1 a)) := by
    have : e0 = u_ce cA (h.1 a) := by cases g1; rfl
    rw [← this]; exact hk
  have := va_pl_set (X := []) (e := u_ce cA e) (u_w_D base cA h) hm hk'
  refine this.trans ?_
  refine va_pl_congr fun x => ?_
  unfold va_up
  by_cases hx : x = a
  · simp [hx]
  · simp [hx]
theorem u_w_push {base : Nat} {cA : Nat → ClassId} {h : UH} {e : UE} {n : Nat} (hb : base ≤ h.2.1) : u_w base cA h ++ [(h.2.1, u_ce cA e)] = u_w base cA (u_new h e n) := by
  unfold u_w
  rw [va_pl_push (by rw [List.mem_range'_1]; omega)]
  have e1 : (u_new h e n).2.1 - base = (h.2.1 - base) + 1 := by unfold u_new; simp; omega
  rw [e1, List.range'_concat]
  have e2 : base + 1 * (h.2.1 - base) = h.2.1 := by omega
  rw [e2]
  refine va_pl_congr fun x => ?_
  unfold va_up u_new va_up
  by_cases hx : x = h.2.1
  · simp [hx]
  · simp [hx]
