/-! ===== what the tables say at the law's entry ===== -/
theorem k_prim {U : State} {A : Array Value} {ty : FieldType} (h : (Cond.arrayClass ty).before A U = true) : ∃ c, ArrOfT U c ty ∧ U.vm.findClass ("[" ++ ty.toString) = some c := by
  obtain ⟨c, k, comp, h1, h2, h3⟩ := Cond.arrayClass_spec h
  exact ⟨c, fun n z => ⟨fun k h => (by cases h), k, h2, comp, h3⟩, h1⟩
theorem k_obj {U : State} {A : Array Value} {C : String} (h : (Cond.arrayOver (.object C)).before A U = true) : ∃ c, ArrOfT U c (.object C) ∧ va_RA U c (.object C) := by
  obtain ⟨comp, c, k, h1, h2, h3, h4, h5⟩ := Cond.arrayOver_spec h
  exact ⟨c, fun n z => ⟨fun k h => (by cases h), k, h3, comp, h4⟩, k, comp, h3, h4, h1, h5⟩
theorem k_inst : ∀ (c : Nat) (q : vw_C), vwCl[c]? = some q → ∃ n, Cond.instantiable q.1 n ∈ lw_T := fun c q h => match c, h with
  | 0, h => by cases h; exact ⟨_, u_ins0⟩
  | 1, h => by cases h; exact ⟨_, u_ins1⟩
  | 2, h => by cases h; exact ⟨_, u_ins2⟩
  | 3, h => by cases h; exact ⟨_, u_ins3⟩
  | 4, h => by cases h; exact ⟨_, u_ins4⟩
  | 5, h => by cases h; exact ⟨_, u_ins5⟩
  | 6, h => by cases h; exact ⟨_, u_ins6⟩
  | 7, h => by cases h; exact ⟨_, u_ins7⟩
  | 8, h => by cases h; exact ⟨_, u_ins8⟩
  | 9, h => by cases h; exact ⟨_, u_ins9⟩
  | 10, h => by cases h; exact ⟨_, u_ins10⟩
  | 11, h => by cases h; exact ⟨_, u_ins11⟩
  | 12, h => by cases h; exact ⟨_, u_ins12⟩
  | n + 13, h => by cases h
theorem k_K {s : State} {A : Array Value} (hts : ∀ w ∈ lw_tbl, w.before A s = true) : ∃ (D : va_G) (cA : Nat → ClassId), va_K D vwCl (u_tys cA) s := by
  have hT : ∀ w ∈ lw_T, w.before A s = true := fun w hw => hts w (List.mem_filter.mp hw).1
  have h0 : ∀ c : Nat, ∃ r : ClassId × (Nat → Nat), ∀ q : vw_C, vwCl[c]? = some q → u_Kn s q.1 q.2.1 q.2.2 r.1 r.2 := fun c => by
    cases hq : vwCl[c]? with
    | none => exact ⟨(0, fun _ => 0), fun q h => by cases h⟩
    | some q =>
      obtain ⟨n, hn⟩ := k_inst c q hq
      obtain ⟨cC, iS, hk⟩ := u_known (C := q.1) (T := q.2.1) (N := q.2.2) (n := n) hT (u_inw c q hq) (hT _ hn)
      exact ⟨(cC, iS), fun q' h => by cases h; exact hk⟩
  obtain ⟨ad, had⟩ := Classical.axiomOfChoice h0
  obtain ⟨c0, a0, b0⟩ := k_prim (hT _ u_acB)
  obtain ⟨c1, a1, b1⟩ := k_prim (hT _ u_acI)
  obtain ⟨c2, a2, b2⟩ := k_prim (hT _ u_acJ)
  obtain ⟨c3, a3, b3⟩ := k_prim (hT _ u_acZ)
  obtain ⟨c4, a4, b4⟩ := k_obj (hts _ (lw_gm (i := 393) (w := .arrayOver (.object "HeadCounts$Rule")) rfl))
  obtain ⟨c5, a5, b5⟩ := k_obj (hts _ (lw_gm (i := 519) (w := .arrayOver (.object "HeadCounts$State")) rfl))
  obtain ⟨c6, a6, b6⟩ := k_obj (hts _ (lw_gm (i := 650) (w := .arrayOver (.object "HeadCounts$World")) rfl))
  refine ⟨(fun c => (ad c).1, fun c => (ad c).2), fun k => match k with | 0 => c0 | 1 => c1 | 2 => c2 | 3 => c3 | 4 => c4 | 5 => c5 | 6 => c6 | _ => c1, fun c q hq => had c q hq, fun k q hk => ?_⟩
  match k, hk with
  | 0, hk => cases hk; exact ⟨a0, b0⟩
  | 1, hk => cases hk; exact ⟨a1, b1⟩
  | 2, hk => cases hk; exact ⟨a2, b2⟩
  | 3, hk => cases hk; exact ⟨a3, b3⟩
  | 4, hk => cases hk; exact ⟨a4, b4⟩
  | 5, hk => cases hk; exact ⟨a5, b5⟩
  | 6, hk => cases hk; exact ⟨a6, b6⟩
  | 7, hk => cases hk; exact ⟨a1, b1⟩
  | n + 8, hk => cases hk
theorem k_AO {s : State} {A : Array Value} (hts : ∀ w ∈ lw_tbl, w.before A s = true) : u_AO s := ⟨va_AO.of (hts _ (lw_gm (i := 393) rfl)), va_AO.of (hts _ (lw_gm (i := 519) rfl)), va_AO.of (hts _ (lw_gm (i := 650) rfl)), va_Nw.of rfl (hts _ (lw_gm (i := 655) rfl))⟩
abbrev kS : Term := .string "HeadCounts$Reader" 61
abbrev kG : List Cond := flatC (Jvm.Cond.and given_1 narrow_1)
theorem kg_0 : kG[4]? = some (Cond.eq (.static "java/lang/String" "COMPACT_STRINGS" "Z") (.int 1)) := by decide +kernel
theorem kg_1 : kG[5]? = some (Cond.isRef (.static "jdk/internal/util/Preconditions" "SIOOBE_FORMATTER" "Ljava/util/function/BiFunction;")) := by decide +kernel
theorem kg_2 : kG[48]? = some (Cond.exactly kS "java/lang/String") := by decide +kernel
theorem kg_3 : kG[49]? = some (Cond.eq (.field kS "java/lang/String" "coder" "B") (.int 0)) := by decide +kernel
theorem kg_4 : kG[50]? = some (Cond.arrayOf (.field kS "java/lang/String" "value" "[B") .byte) := by decide +kernel
theorem kg_5 : kG[51]? = some (Cond.eq (.length (.field kS "java/lang/String" "value" "[B")) (.int 119)) := by decide +kernel
theorem kg_e : ∀ j, j < 119 → kG[52 + j]? = some (Cond.eq (.elem (.field kS "java/lang/String" "value" "[B") (.int (Int32.ofNat j))) (.int (wB.getD j 0))) := by decide +kernel
theorem k_Tx {s : State} {A : Array Value} (hts : ∀ w ∈ lw_tbl, w.before A s = true) (hg : (Jvm.Cond.and given_1 narrow_1).before A s = true) : u_Tx s.heap.size s s.heap := by
  have hf := flat_of_before _ hg
  have at' : ∀ {i : Nat} {c : Cond}, kG[i]? = some c → c.before A s = true := fun h => hf _ (List.mem_of_getElem? h)
  have hA : ∀ a : Nat, a < s.heap.size → ¬ s.heap.size ≤ a := fun a h => Nat.not_le.mpr h
  have one : ∀ {i : Nat}, i < 1 → i = 0 := fun h => by omega
  obtain ⟨adK, adV, h3, h4⟩ := vk_Sof (args := A) (s := s) (N := 1) (tm := fun _ => kS) (len := [119]) (byt := [wB]) (A := fun q => s.heap.size ≤ q) (fun i hi => by rw [one hi]; decide) (fun i hi => at' kg_2) (fun i hi => at' kg_3) (fun i hi => at' kg_4) (fun i hi => by rw [one hi]; exact at' kg_5) (fun i hi j hj => by
      rw [one hi] at hj ⊢
      exact at' (kg_e j hj)) (fun i j hi hj n => absurd ((one hi).trans (one hj).symm) n) hA
  exact ⟨va_Nw.of rfl (hts _ (lw_gm (i := 1354) rfl)), va_Zof (hts _ (lw_gm (i := 1091) rfl)) (hts _ (lw_gm (i := 271) rfl)) (va_eqt (at' kg_0)) hA, va_Zqof (hts _ (lw_gm (i := 1107) rfl)) (hts _ (lw_gm (i := 273) rfl)) (at' kg_1) hA, adK, adV, h3, vk_R.of (hts _ (lw_gm (i := 1065) rfl)) (h4 0 (by decide))⟩
