/-! ===== methods by their runs, to any depth of calls ===== -/
def Ex (mt : Nat → UM) (codeOf : Nat → Nat → Option UI) (sp : Nat → List Value → UH → UR → Prop) : Nat → Nat → List Value → UH → UR → Prop
  | 0, _, _, _, _ => False
  | d + 1, mi, as, h, res => sp mi as h res ∨ ((lg_sl as).length ≤ (mt mi).2.2.1 ∧ ∃ n, Ux (Ex mt codeOf sp d) (codeOf mi) n (0, u_ent (mt mi).2.2.1 as, [], h) res)
theorem u_ent_len : ∀ (as : List Value) (n : Nat), (lg_sl as).length ≤ n → (u_ent n as).length = n
  | [], n, _ => by simp [u_ent]
  | v :: r, n, h => by
    unfold lg_sl at h
    rw [List.flatMap_cons, List.length_append] at h
    by_cases hc : v.category = 2
    · rw [if_pos hc] at h
      have h' : 2 + (lg_sl r).length ≤ n := h
      have := u_ent_len r (n - 2) (by omega)
      unfold u_ent
      rw [if_pos hc]
      simp only [List.length_cons]
      omega
    · rw [if_neg hc] at h
      have h' : 1 + (lg_sl r).length ≤ n := h
      have := u_ent_len r (n - 1) (by omega)
      unfold u_ent
      rw [if_neg hc]
      simp only [List.length_cons]
      omega
theorem u_ent_get : ∀ (as : List Value) (n i j : Nat) (v : Value), (u_ent n as)[j]? = some (some v) → (i + j, v) ∈ lv_args i as
  | [], n, i, j, v, h => by
    unfold u_ent at h
    have := List.mem_of_getElem? h
    simp at this
  | w :: r, n, i, j, v, h => by
    unfold u_ent at h
    unfold lv_args
    by_cases hc : w.category = 2
    · rw [if_pos hc] at h ⊢
      match j, h with
      | 0, h => simp at h; subst h; exact List.mem_cons_self
      | 1, h => simp at h
      | j + 2, h =>
        have := u_ent_get r (n - 2) (i + 2) j v (by simpa using h)
        refine List.mem_cons_of_mem _ ?_
        rw [show i + (j + 2) = i + 2 + j by omega]; exact this
    · rw [if_neg hc] at h ⊢
      match j, h with
      | 0, h => simp at h; subst h; exact List.mem_cons_self
      | j + 1, h =>
        have := u_ent_get r (n - 1) (i + 1) j v (by simpa using h)
        refine List.mem_cons_of_mem _ ?_
        rw [show i + (j + 1) = i + 1 + j by omega]; exact this
theorem u_ent_LR {as : List Value} {n : Nat} {ls : Array Slot} (h : (lg_sl as).length ≤ n) (hl : lv_has ls n (lv_args 0 as)) : u_LR n (u_ent n as) ls := by
  refine ⟨u_ent_len as n h, hl.1, hl.2.1, fun q hq => hl.2.2 q ?_⟩
  have := u_ent_get as n 0 q.1 q.2 (u_prs_mem.mp hq)
  rw [Nat.zero_add] at this
  exact this
/-- what is known of the methods: names, words, instructions -/
def t_ok (mt : Nat → UM) (codeOf : Nat → Nat → Option UI) : Prop := ∀ mi, (∃ pc i, codeOf mi pc = some i) → m_ok (mt mi) ∧ ∀ pc i, codeOf mi pc = some i → ∃ pl, u_ok (mt mi).1.cls (mt mi).2.1 (mt mi).2.2.2.1 ((mt mi).2.2.2.2.1 == 2 || (mt mi).2.2.2.2.1 == 3) pc i pl = true ∧ c_ok mt (mt mi).1.cls i
theorem ex_code {call : Nat → List Value → UH → UR → Prop} {code : Nat → Option UI} {n : Nat} {x : UC} {res : UR} (h : Ux call code n x res) : ∃ pc i, code pc = some i := by
  match n, x, h with
  | 0, _, h => exact h.elim
  | n + 1, (pc, L, st, hh), h =>
    obtain ⟨L', -, i, hi, -⟩ := h
    exact ⟨pc, i, hi⟩
section Exec
variable {D : va_G} {cA : Nat → ClassId} {base b Ls : Nat} {xs : Nat → Int32} {l : Launch} {mt : Nat → UM} {codeOf : Nat → Nat → Option UI} {sp : Nat → List Value → UH → UR → Prop}
theorem ex_mono (hsp : ∀ mi as h r, sp mi as h r → h.2.1 ≤ r.2.2.1 ∧ h.2.2 ≤ r.2.2.2) : ∀ (d mi : Nat) (as : List Value) (h : UH) (res : UR), Ex mt codeOf sp d mi as h res → h.2.1 ≤ res.2.2.1 ∧ h.2.2 ≤ res.2.2.2
  | 0, _, _, _, _, q => q.elim
  | d + 1, mi, as, h, res, q => by
    rcases q with q | ⟨-, n, q⟩
    · exact hsp mi as h res q
    · exact u_mono (ex_mono hsp d) n _ res q
theorem ex_met (hbb : b < base) (ht : t_ok mt codeOf) (hsm : ∀ mi as h r, sp mi as h r → h.2.1 ≤ r.2.2.1 ∧ h.2.2 ≤ r.2.2.2) (hsp : ∀ d mi as h r, sp mi as h r → m_ok (mt mi) ∧ u_Met D cA base b Ls xs l (d + 1) (mt mi) as h r) : ∀ (d mi : Nat) (as : List Value) (h : UH) (res : UR), Ex mt codeOf sp d mi as h res → m_ok (mt mi) ∧ u_Met D cA base b Ls xs l d (mt mi) as h res
  | 0, _, _, _, _, q => q.elim
  | d + 1, mi, as, h, res, q => by
    rcases q with q | ⟨hlen, n, q⟩
    · exact hsp d mi as h res q
    · obtain ⟨hm, hcd⟩ := ht mi (ex_code q)
      refine ⟨hm, ?_⟩
      have hmono := u_mono (ex_mono hsm d) n _ res q
      dsimp only at hmono
      refine Met.ofW (cc := (mt mi).2.1) (maxL := (mt mi).2.2.1) (ret := (mt mi).2.2.2.1) hm.1 rfl ?_
      intro p e s m args below meth c s₁ B hml hv
      obtain ⟨rfl, hsz, hP, hK, hX, hAO, hb0, hO⟩ := hv
      have hts := atoms_spec (ws := m_ws (mt mi)) B.pre
      have hlocks := B.notSynchronized
      have hin : ((mt mi).2.2.2.2.1 == 2 || (mt mi).2.2.2.2.1 == 3) = true → meth.name = "<init>" := fun z => by
        rw [(name_of_methodNamed B.named B.method).1]
        rcases hm.2.2.2.2.2 with g | g | g
        · rw [g.1] at z; exact absurd z (by decide)
        · rw [g.1] at z; exact absurd z (by decide)
        · exact g.2.2.1
      have hF : u_Fix D cA base b Ls xs p (u_rm (d + 1) h res.2) s m as.toArray meth c (mt mi).1.cls (mt mi).2.1 (mt mi).2.2.1 := ⟨B.exec, B.bytes, hml, findClass_of_methodNamed B.named, fun w hw => hts w (List.mem_cons_of_mem _ hw), hK, hX, hAO, hbb, by rw [hsz]; exact hb0, Nat.succ_le_succ (Nat.zero_le _), by show 60 ≤ 60 * (d + 1 + 8); omega⟩
      rw [lg_entry_eq]
      have hl := lv_entry as hlen
      generalize (lg_sl as ++ List.replicate ((mt mi).2.2.1 - (lg_sl as).length) Slot.unset).toArray = ls at hl ⊢
      refine u_sim (h0 := h) (d := d) (res := res) hF hin hcd (ex_met hbb ht hsm hsp d) (ex_mono hsm d) (Nat.le_refl _) (Nat.le_refl _) ?_ ?_ n 0 _ [] h s.heap [] 0 0 ls q ⟨hP, va_S.rf, hsz, rfl, rfl, hO⟩ (u_ent_LR hlen hl)
      · show res.2.2.1 ≤ h.2.1 + (res.2.2.1 - h.2.1) ∧ res.2.2.2 ≤ h.2.2 + (res.2.2.2 - h.2.2)
        omega
      · intro ins rs pl pc L st h2 H locs cells slots ls2 hok hst hI
        refine W_szle fun hz => ?_
        have hsz2 := u_size hF hI hz
        obtain ⟨hP2, hS2, z0, z1, z2, hO2⟩ := hI
        obtain ⟨hr2, hins⟩ := u_str hst
        refine W.widen (k := res.2.2.1 - h.2.1) (n := res.2.2.2 - h.2.2) (by rw [hr2]; omega) (by rw [hr2]; omega) ?_
        have hq : ∀ (v : Option Value), v = res.1 → ∀ t : State, t.heap = H → s.WarmedH t.vm → u_Qc D cA base b Ls xs res as.toArray s (.returned v) t := by
          intro v hv t hH hW
          subst hv
          exact ⟨rfl, by rw [hH, hr2]; exact hsz2, by rw [hH, hr2]; exact hP2, by rw [hr2]; exact hO2, hS2.F hH⟩
        have ho := u_ok2 hok
        rcases hins with rfl | rfl | rfl | rfl
        · have hd := u_okd hok rfl
          replace hst : v_ireturn rs pc L st h2 = some (.inr res) := hst
          unfold v_ireturn at hst
          split at hst
          · cases hst
            have hr := of_decide_eq_true (show decide ((mt mi).2.2.2.1 = some .int) = true from ho)
            exact W.iret B.exec B.bytes (B.returns.trans hr) (hq _ rfl) hS2.2.2 hd
          · split at hst
            · rename_i hx01
              cases hst
              have hr := of_decide_eq_true (show decide ((mt mi).2.2.2.1 = some .boolean) = true from ho)
              exact W.zret B.exec B.bytes (B.returns.trans hr) (by rcases hx01 with rfl | rfl <;> rfl) (hq _ rfl) hS2.2.2 hd
            · cases hst
          · cases hst
        · have hd := u_okd hok rfl
          replace hst : v_lreturn rs pc L st h2 = some (.inr res) := hst
          unfold v_lreturn at hst
          split at hst
          · cases hst
            exact W.lret B.exec B.bytes (B.returns.trans (of_decide_eq_true ho)) (hq _ rfl) hS2.2.2 hd
          · cases hst
        · have hd := u_okd hok rfl
          have hr : ∃ rt, (mt mi).2.2.2.1 = some rt ∧ ((∃ n, rt = .object n) ∨ ∃ t, rt = .array t) := by
            replace ho : ok_art (mt mi).2.2.2.1 = true := ho
            unfold ok_art at ho
            split at ho
            · exact ⟨_, by assumption, Or.inl ⟨_, rfl⟩⟩
            · exact ⟨_, by assumption, Or.inr ⟨_, rfl⟩⟩
            · cases ho
          obtain ⟨rt, hr1, hr2'⟩ := hr
          replace hst : v_areturn rs pc L st h2 = some (.inr res) := hst
          unfold v_areturn at hst
          split at hst
          · cases hst
            exact W.aret B.exec B.bytes (B.returns.trans hr1) hr2' (Or.inr ⟨_, rfl⟩) (hq _ rfl) hS2.2.2 hd
          · cases hst
            exact W.aret B.exec B.bytes (B.returns.trans hr1) hr2' (Or.inl rfl) (hq _ rfl) hS2.2.2 hd
          · cases hst
        · have hd := u_okd hok rfl
          replace hst : v_return rs pc L st h2 = some (.inr res) := hst
          unfold v_return at hst
          split at hst
          · cases hst
            exact W.vret B.exec B.bytes (B.returns.trans (of_decide_eq_true ho)) (hq _ rfl) hS2.2.2 hd
          · cases hst
end Exec
