/-! ===== calls and runs once more, for methods of a class that is no plain one: no row of the natives for that name (Math.min, Math.max) ===== -/
def m_ok2 (M : UM) : Prop := plainFor M.1 = true ∧ (M.1.cls ≠ "java/lang/invoke/MethodHandle" ∧ M.1.cls ≠ "java/lang/invoke/VarHandle" ∧ (parseMethodDescriptor M.1.desc).map (fun d => d.parameters.length) = some M.2.2.2.2.2.2) ∧ Cond.code M.1 M.2.1 M.2.2.1 M.2.2.2.1 ∈ lw_T ∧ Cond.initialized M.1.cls ∈ lw_T ∧ M.2.2.1 ≤ 40 ∧
  ((M.2.2.2.2.1 = 0 ∧ Cond.instanceMethod M.1 ∈ lw_T ∧ Cond.selects M.1.cls M.1 M.1 ∈ lw_T ∧ m_rec M) ∨ (M.2.2.2.2.1 = 1 ∧ Cond.static M.1 ∈ lw_T) ∨ ((M.2.2.2.2.1 = 2 ∨ M.2.2.2.2.1 = 3) ∧ Cond.instanceMethod M.1 ∈ lw_T ∧ M.1.name = "<init>" ∧ M.2.2.2.1 = none))
theorem m_ok.two {M : UM} (h : m_ok M) : m_ok2 M := ⟨plainFor_of_name h.1, h.2⟩
theorem met_ofWF {l : Launch} {y : MethodName} {ws ws' : List Cond} {rm : Room} {Pc : Array Value → State → Prop} {Qc : Array Value → State → Outcome → State → Prop} {mc ms : Nat} {free : Addr → Prop} {cc : ByteArray} {maxL : Nat} {ret : Option FieldType}
    (hy : plainFor y = true) (hw : ws = Cond.code y cc maxL ret :: ws')
    (body : ∀ p e s m args below meth c s₁, BodyLoose p l y (headSpec ws rm) cc maxL ret e s m args below meth c s₁ → c.maxLocals = maxL → Pc args s →
      W p l e (headSpec ws rm).room s m args below meth c s.heap [] 0 0 (MQ below Qc args s mc ms free) (entryFrame m args maxL)) : Met l y ws rm Pc Qc mc ms free := by
  refine MetFree.of_bodySF (code := cc) (maxLocals := maxL) (ret := ret) hy ?_ ?_
  · intro args s m h hn
    obtain ⟨meth, c, h1, h2, h3, h4, h5, h6, -, -⟩ := Cond.code_spec hn (atoms_spec (ws := ws) h _ (by rw [hw]; exact List.mem_cons_self))
    exact ⟨meth, c, h1, h2, h3, h4, h5, h6⟩
  · intro p e s m args below meth c s₁ B hml hP _
    have hh0 : s₁.heap = s.heap := by rw [B.state]; rfl
    obtain ⟨t, a1, o, b1, b2, b3⟩ := body p e s m args below meth c s₁ B hml hP s₁ hh0 (Stand.of_body B)
    exact ⟨t, o, a1, b1, b2, ⟨b3.1, b3.2⟩⟩
theorem mo2_301 : m_ok2 (u_mt 301) := ⟨by decide +kernel, ⟨by decide +kernel, by decide +kernel, by decide +kernel⟩, u_tm (pl := 1685) rfl, u_tm (pl := 270) rfl, by decide +kernel, Or.inr (Or.inl ⟨rfl, u_tm (pl := 1684) rfl⟩)⟩
theorem mo2_302 : m_ok2 (u_mt 302) := ⟨by decide +kernel, ⟨by decide +kernel, by decide +kernel, by decide +kernel⟩, u_tm (pl := 1044) rfl, u_tm (pl := 270) rfl, by decide +kernel, Or.inr (Or.inl ⟨rfl, u_tm (pl := 1043) rfl⟩)⟩
section Sim62
variable {D : va_G} {cA : Nat → ClassId} {base b Ls : Nat} {xs : Nat → Int32} {p : Program} {l : Launch} {e : Env} {R : Room} {s : State} {m : MethodId} {args : Array Value} {below : List Frame} {meth : Method} {c : Code} {own : String} {bytes : ByteArray} {nL : Nat} {rt : Option FieldType} {init : Bool} {Q : State → Prop}
variable {h0 h : UH} {H : Heap} {locs : List Loc} {cells slots : Nat} {pc pl : Nat} {L : List (Option Value)} {ls : Array Slot} {st : List Value} {y : UC} {rs : List Nat} {mt : Nat → UM}
theorem u_callr2 {ins : Instr} {d mi : Nat} {as r : List Value} {res : UR} (hF : u_Fix D cA base b Ls xs p R s m args meth c own bytes nL) (hI : u_Inv D cA base b Ls xs s h0 H locs cells slots h) (hLR : u_LR nL L ls) (hok : u_ok own bytes rt init pc (ins, rs) pl = true) (hc : c_ok mt own (ins, rs)) (hm : m_ok2 (mt mi)) (hcl : ucall (ins, rs) st h = some (mi, as, r)) (hM : u_Met D cA base b Ls xs l d (mt mi) as h res) (hd1 : d + 9 ≤ R.frames) (hd2 : 60 * (d + 9) ≤ R.locals) (hmo : h.2.1 ≤ res.2.2.1 ∧ h.2.2 ≤ res.2.2.2) (hrm : res.2.2.1 ≤ h0.2.1 + R.cells ∧ res.2.2.2 ≤ h0.2.2 + R.slots)
    (K : ∀ (H' : Heap) (locs' : List Loc) (cells' slots' : Nat), u_Inv D cA base b Ls xs s h0 H' locs' cells' slots' res.2 → W p l e R s m args below meth c H' locs' cells' slots' Q (F0 m (pc + 3) ls (res.1.toList ++ r))) : W p l e R s m args below meth c H locs cells slots Q (F0 m pc ls st) := by
  refine W_szle fun hz => ?_
  have hsz := u_size hF hI hz
  have hF' := hF
  obtain ⟨hx, hb, hml, hown, hts, hK, hX, hAO, hbb, hbs, hfr, hlo⟩ := hF
  have hI' := hI
  obtain ⟨hP, hS, e0, e1, e2, hO⟩ := hI
  obtain ⟨m1, ⟨m2, m3, m4⟩, m5, m6, m7, m8⟩ := hm
  have hG := m_good m5
  have hR : (u_rm d h res.2).frames + 1 ≤ R.frames ∧ 8 + ((mt mi).2.2.1 + 11) + (u_rm d h res.2).locals ≤ R.locals := ⟨hd1, u_rm60 m7 hd2⟩
  have hroom : cells + (res.2.2.1 - h.2.1) ≤ R.cells ∧ slots + (res.2.2.2 - h.2.2) ≤ R.slots := by omega
  have hpre : ∀ as' : List Value, as' = as → PreS s H (u_Pc D cA base b Ls xs as h) as' := fun as' e' => by subst e'; exact ⟨u_blind, u_pre hF' hI' hsz as'⟩
  unfold ucall at hcl
  split at hcl
  · rename_i x mi' n ci eq1 eq2
    dsimp only at eq1 eq2
    subst eq1; subst eq2
    obtain ⟨hc1, hc2⟩ : (mt mi').2.2.2.2 = (0, ci, n) ∧ Cond.methodLink own x (mt mi').1 ∈ lw_T := hc
    split at hcl
    · rename_i b0 as' r' ea
      split at hcl
      · rename_i hq
        obtain ⟨w1, w2, w3⟩ := hq
        cases hcl
        have est := u_arg_eq ea
        subst est
        have hd := u_okd hok rfl
        obtain ⟨-, k2, k3, k4⟩ : (mt mi).2.2.2.2.1 = 0 ∧ Cond.instanceMethod (mt mi).1 ∈ lw_T ∧ Cond.selects (mt mi).1.cls (mt mi).1 (mt mi).1 ∈ lw_T ∧ m_rec (mt mi) := by
          rcases m8 with g | g | g
          · exact g
          · rw [hc1] at g; exact absurd (show (0 : Nat) = 1 from g.1) (by decide)
          · rw [hc1] at g; rcases g.1 with z | z
            · exact absurd (show (0 : Nat) = 2 from z) (by decide)
            · exact absurd (show (0 : Nat) = 3 from z) (by decide)
        obtain ⟨q, hq, hq1⟩ := k4
        rw [hc1] at hq
        obtain ⟨fs, hfs⟩ := u_cls_some w2 (u_ci99 hq)
        obtain ⟨g1, g2⟩ := u_pool_o hO hfs (u_ci99 hq)
        obtain ⟨k0, hk⟩ := u_w_at (cA := cA) g1 g2
        rw [hfs] at hk
        have hrecv := va_recv hK hP (q0 := k0) hq hk
        rw [hq1] at hrecv
        have hn : as'.length = (mt mi).2.2.2.2.2.2 := by rw [hc1]; exact w1
        refine u_back hF' hI' hsz (by omega) (by omega) (va_runV (As := as') (rest := r) ⟨hx, hb, hml, hown, hts⟩ hM (cwV (mt mi).2.2.2.2.2.2 hts ?_ rfl rfl rfl ⟨rfl, m2, m3, m4⟩ hR) ⟨u_blind, hrecv, u_pre hF' hI' hsz _⟩ rfl hn hLR.2.1 (by simp) (lv_room (u_cats w3)) hd hroom) (fun H' locs' i => K H' locs' _ _ i)
        intro w hw
        unfold wsV at hw
        rcases List.mem_append.mp hw with z | z
        · simp only [List.mem_cons, List.not_mem_nil, or_false] at z
          rcases z with rfl | rfl | rfl | rfl
          · exact ⟨hc2, good_of_word (List.mem_filter.mp hc2).2⟩
          · exact ⟨k2, good_of_word (List.mem_filter.mp k2).2⟩
          · exact ⟨k3, good_of_word (List.mem_filter.mp k3).2⟩
          · exact ⟨m6, good_of_word (List.mem_filter.mp m6).2⟩
        · exact hG w z
      · cases hcl
    · cases hcl
  · rename_i x mi' n ci eq1 eq2
    dsimp only at eq1 eq2
    subst eq1; subst eq2
    split at hcl
    · rename_i b0 as' r' ea
      split at hcl
      · rename_i hq
        obtain ⟨w1, w2, w3⟩ := hq
        cases hcl
        have est := u_arg_eq ea
        subst est
        have hd := u_okd hok rfl
        rcases (hc : ((mt mi).2.2.2.2.1 = 2 ∧ (mt mi).2.2.2.2.2.2 = n ∧ Cond.methodLink own x (mt mi).1 ∈ lw_T) ∨ ((mt mi).2.2.2.2.1 = 3 ∧ (mt mi).2.2.2.2.2.2 = n ∧ own = "HeadCounts" ∧ x = 76 ∧ (mt mi).1 = ⟨"HeadCounts$Scene", "<init>", "()V"⟩)) with ⟨hc0, hc1, hc2⟩ | ⟨hc0, hc1, hc2, hc3, hc4⟩
        · obtain ⟨-, k2, k3, k4⟩ : ((mt mi).2.2.2.2.1 = 2 ∨ (mt mi).2.2.2.2.1 = 3) ∧ Cond.instanceMethod (mt mi).1 ∈ lw_T ∧ (mt mi).1.name = "<init>" ∧ (mt mi).2.2.2.1 = none := by
            rcases m8 with g | g | g
            · rw [hc0] at g; exact absurd g.1 (by decide)
            · rw [hc0] at g; exact absurd g.1 (by decide)
            · exact g
          have hn : as'.length = (mt mi).2.2.2.2.2.2 := by rw [hc1]; exact w1
          unfold u_Met m_ws at hM
          unfold m_ws at hG
          rw [k4] at hM hG
          exact u_back hF' hI' hsz (by omega) (by omega) (va_runI (As := as') (rest := r) ⟨hx, hb, hml, hown, hts⟩ hM (cwI (mt mi).2.2.2.2.2.2 hts hG rfl rfl rfl (hts _ m6) (hts _ hc2) (hts _ k2) k3 ⟨m2, m3, m4⟩ hR) (hpre _ rfl) rfl hn hLR.2.1 (by simp) (lv_room (u_cats w3)) hd hroom) (fun H' locs' i => K H' locs' _ _ i)
        · obtain ⟨-, k2, k3, k4⟩ : ((mt mi).2.2.2.2.1 = 2 ∨ (mt mi).2.2.2.2.1 = 3) ∧ Cond.instanceMethod (mt mi).1 ∈ lw_T ∧ (mt mi).1.name = "<init>" ∧ (mt mi).2.2.2.1 = none := by
            rcases m8 with g | g | g
            · rw [hc0] at g; exact absurd g.1 (by decide)
            · rw [hc0] at g; exact absurd g.1 (by decide)
            · exact g
          have hn : as'.length = (mt mi).2.2.2.2.2.2 := by rw [hc1]; exact w1
          unfold u_Met m_ws at hM
          unfold m_ws at hG
          rw [k4] at hM hG
          have hnw := hAO.2.2.2
          subst hc2; subst hc3
          rw [← hc4] at hnw
          exact u_back hF' hI' hsz (by omega) (by omega) (va_runIN (As := as') (rest := r) ⟨hx, hb, hml, hown, hts⟩ hM ⟨va_cnB (mt mi).2.2.2.2.2.2 hts hG rfl rfl rfl hnw (hts _ m6) ⟨m2, m3, m4⟩ hR, k3, hts _ k2⟩ (hpre _ rfl) rfl hn hLR.2.1 (by simp) (lv_room (u_cats w3)) hd hroom) (fun H' locs' i => K H' locs' _ _ i)
      · cases hcl
    · cases hcl
  · rename_i x mi' n eq1 eq2
    dsimp only at eq1 eq2
    subst eq1; subst eq2
    obtain ⟨hc0, hc1, hc2⟩ : (mt mi').2.2.2.2.1 = 1 ∧ (mt mi').2.2.2.2.2.2 = n ∧ Cond.methodLink own x (mt mi').1 ∈ lw_T := hc
    split at hcl
    rename_i as' r' ea
    split at hcl
    · rename_i hq
      obtain ⟨w1, w3⟩ := hq
      cases hcl
      have est := u_arg_eq ea
      subst est
      have hd := u_okd hok rfl
      have k2 : Cond.static (mt mi).1 ∈ lw_T := by
        rcases m8 with g | g | g
        · rw [hc0] at g; exact absurd g.1 (by decide)
        · exact g.2
        · rw [hc0] at g; rcases g.1 with z | z <;> exact absurd z (by decide)
      have hn : as.length = (mt mi).2.2.2.2.2.2 := by rw [hc1]; exact w1
      exact u_back hF' hI' hsz (by omega) (by omega) (va_runS (As := as) (rest := r) ⟨hx, hb, hml, hown, hts⟩ hM ⟨callB_of (mt mi).2.2.2.2.2.2 hts hG rfl rfl rfl (hts _ m6) (hts _ hc2) ⟨m2, m3, m4⟩ hR, hts _ k2⟩ (hpre _ rfl) rfl hn hLR.2.1 (by simp) (lv_room (u_cats w3)) hd hroom) (fun H' locs' i => K H' locs' _ _ i)
    · cases hcl
  · cases hcl
/-- A RUN of the small machine is the machine's -/
theorem u_sim2 {call : Nat → List Value → UH → UR → Prop} {code : Nat → Option UI} {d : Nat} {res : UR} (hF : u_Fix D cA base b Ls xs p R s m args meth c own bytes nL) (hin : init = true → meth.name = "<init>")
    (hcode : ∀ pc i, code pc = some i → ∃ pl, u_ok own bytes rt init pc i pl = true ∧ c_ok mt own i) (hcall : ∀ mi as h r, call mi as h r → m_ok2 (mt mi) ∧ u_Met D cA base b Ls xs l d (mt mi) as h r) (hmo : ∀ mi as h r, call mi as h r → h.2.1 ≤ r.2.2.1 ∧ h.2.2 ≤ r.2.2.2) (hd1 : d + 9 ≤ R.frames) (hd2 : 60 * (d + 9) ≤ R.locals) (hrm : res.2.2.1 ≤ h0.2.1 + R.cells ∧ res.2.2.2 ≤ h0.2.2 + R.slots)
    (hret : ∀ (ins : Instr) (rs : List Nat) (pl pc : Nat) (L : List (Option Value)) (st : List Value) (h : UH) (H : Heap) (locs : List Loc) (cells slots : Nat) (ls : Array Slot), u_ok own bytes rt init pc (ins, rs) pl = true → ustep (ins, rs) (pc, L, st, h) = some (.inr res) → u_Inv D cA base b Ls xs s h0 H locs cells slots h → W p l e R s m args below meth c H locs cells slots Q (F0 m pc ls st)) :
    ∀ (n pc : Nat) (L : List (Option Value)) (st : List Value) (h : UH) (H : Heap) (locs : List Loc) (cells slots : Nat) (ls : Array Slot), Ux call code n (pc, L, st, h) res → u_Inv D cA base b Ls xs s h0 H locs cells slots h → u_LR nL L ls → W p l e R s m args below meth c H locs cells slots Q (F0 m pc ls st) := by
  intro n
  induction n with
  | zero => intro _ _ _ _ _ _ _ _ _ hu; exact hu.elim
  | succ n ih =>
    intro pc L st h H locs cells slots ls hu hI hLR
    obtain ⟨L', hfg, ⟨ins, rs⟩, hi, hu⟩ := hu
    have hLR' := hLR.fg hfg
    obtain ⟨pl, hok, hc⟩ := hcode pc _ hi
    rcases hu with ⟨y, hst, hn⟩ | hst | ⟨mi, as, r, v, h', hcl, hca, hn⟩
    · have hm := u_mono hmo n y res hn
      exact u_one hF hin hI hLR' hok hst ⟨Nat.le_trans hm.1 hrm.1, Nat.le_trans hm.2 hrm.2⟩ (fun ls' H' locs' cells' slots' q1 q2 => ih y.1 y.2.1 y.2.2.1 y.2.2.2 H' locs' cells' slots' ls' hn q2 q1)
    · exact hret ins rs pl pc L' st h H locs cells slots ls hok hst hI
    · have hm := u_mono hmo n _ res hn
      obtain ⟨g1, g2⟩ := hcall mi as h (v, h') hca
      exact u_callr2 hF hI hLR' hok hc g1 hcl g2 hd1 hd2 (hmo mi as h _ hca) ⟨Nat.le_trans hm.1 hrm.1, Nat.le_trans hm.2 hrm.2⟩ (fun H' locs' cells' slots' q => ih _ _ _ _ H' locs' cells' slots' ls hn q hLR')
end Sim62

/-- what is known of the methods: names, words, instructions -/
def t_ok2 (mt : Nat → UM) (codeOf : Nat → Nat → Option UI) : Prop := ∀ mi, (∃ pc i, codeOf mi pc = some i) → m_ok2 (mt mi) ∧ ∀ pc i, codeOf mi pc = some i → ∃ pl, u_ok (mt mi).1.cls (mt mi).2.1 (mt mi).2.2.2.1 ((mt mi).2.2.2.2.1 == 2 || (mt mi).2.2.2.2.1 == 3) pc i pl = true ∧ c_ok mt (mt mi).1.cls i
section Exec2
variable {D : va_G} {cA : Nat → ClassId} {base b Ls : Nat} {xs : Nat → Int32} {l : Launch} {mt : Nat → UM} {codeOf : Nat → Nat → Option UI} {sp : Nat → List Value → UH → UR → Prop}
theorem ex_met2 (hbb : b < base) (ht : t_ok2 mt codeOf) (hsm : ∀ mi as h r, sp mi as h r → h.2.1 ≤ r.2.2.1 ∧ h.2.2 ≤ r.2.2.2) (hsp : ∀ d mi as h r, sp mi as h r → m_ok2 (mt mi) ∧ u_Met D cA base b Ls xs l (d + 1) (mt mi) as h r) : ∀ (d mi : Nat) (as : List Value) (h : UH) (res : UR), Ex mt codeOf sp d mi as h res → m_ok2 (mt mi) ∧ u_Met D cA base b Ls xs l d (mt mi) as h res
  | 0, _, _, _, _, q => q.elim
  | d + 1, mi, as, h, res, q => by
    rcases q with q | ⟨hlen, n, q⟩
    · exact hsp d mi as h res q
    · obtain ⟨hm, hcd⟩ := ht mi (ex_code q)
      refine ⟨hm, ?_⟩
      have hmono := u_mono (ex_mono hsm d) n _ res q
      dsimp only at hmono
      refine met_ofWF (cc := (mt mi).2.1) (maxL := (mt mi).2.2.1) (ret := (mt mi).2.2.2.1) hm.1 rfl ?_
      intro p e s m args below meth c s₁ B hml hv
      obtain ⟨rfl, hsz, hP, hK, hX, hAO, hb0, hO⟩ := hv
      have hts := atoms_spec (ws := m_ws (mt mi)) B.pre
      have hlocks := B.notSynchronized
      have hin : ((mt mi).2.2.2.2.1 == 2 || (mt mi).2.2.2.2.1 == 3) = true → meth.name = "<init>" := fun z => by
        rw [(name_of_methodNamed B.named B.method).1]
        rcases hm.2.2.2.2.2 with g | g | g
        · rw [g.1] at z; exact absurd z (by decide)
        · rw [g.1] at z; exact absurd z (by decide)
        · exact g.2.2.1
      have hF : u_Fix D cA base b Ls xs p (u_rm (d + 1) h res.2) s m as.toArray meth c (mt mi).1.cls (mt mi).2.1 (mt mi).2.2.1 := ⟨B.exec, B.bytes, hml, findClass_of_methodNamed B.named, fun w hw => hts w (List.mem_cons_of_mem _ hw), hK, hX, hAO, hbb, by rw [hsz]; exact hb0, Nat.succ_le_succ (Nat.zero_le _), by show 60 ≤ 60 * (d + 1 + 8); omega⟩
      rw [lg_entry_eq]
      have hl := lv_entry as hlen
      generalize (lg_sl as ++ List.replicate ((mt mi).2.2.1 - (lg_sl as).length) Slot.unset).toArray = ls at hl ⊢
      refine u_sim2 (h0 := h) (d := d) (res := res) hF hin hcd (ex_met2 hbb ht hsm hsp d) (ex_mono hsm d) (Nat.le_refl _) (Nat.le_refl _) ?_ ?_ n 0 _ [] h s.heap [] 0 0 ls q ⟨hP, va_S.rf, hsz, rfl, rfl, hO⟩ (u_ent_LR hlen hl)
      · show res.2.2.1 ≤ h.2.1 + (res.2.2.1 - h.2.1) ∧ res.2.2.2 ≤ h.2.2 + (res.2.2.2 - h.2.2)
        omega
      · intro ins rs pl pc L st h2 H locs cells slots ls2 hok hst hI
        refine W_szle fun hz => ?_
        have hsz2 := u_size hF hI hz
        obtain ⟨hP2, hS2, z0, z1, z2, hO2⟩ := hI
        obtain ⟨hr2, hins⟩ := u_str hst
        refine W.widen (k := res.2.2.1 - h.2.1) (n := res.2.2.2 - h.2.2) (by rw [hr2]; omega) (by rw [hr2]; omega) ?_
        have hq : ∀ (v : Option Value), v = res.1 → ∀ t : State, t.heap = H → s.WarmedH t.vm → u_Qc D cA base b Ls xs res as.toArray s (.returned v) t := by
          intro v hv t hH hW
          subst hv
          exact ⟨rfl, by rw [hH, hr2]; exact hsz2, by rw [hH, hr2]; exact hP2, by rw [hr2]; exact hO2, hS2.F hH⟩
        have ho := u_ok2 hok
        rcases hins with rfl | rfl | rfl | rfl
        · have hd := u_okd hok rfl
          replace hst : v_ireturn rs pc L st h2 = some (.inr res) := hst
          unfold v_ireturn at hst
          split at hst
          · cases hst
            have hr := of_decide_eq_true (show decide ((mt mi).2.2.2.1 = some .int) = true from ho)
            exact W.iret B.exec B.bytes (B.returns.trans hr) (hq _ rfl) hS2.2.2 hd
          · split at hst
            · rename_i hx01
              cases hst
              have hr := of_decide_eq_true (show decide ((mt mi).2.2.2.1 = some .boolean) = true from ho)
              exact W.zret B.exec B.bytes (B.returns.trans hr) (by rcases hx01 with rfl | rfl <;> rfl) (hq _ rfl) hS2.2.2 hd
            · cases hst
          · cases hst
        · have hd := u_okd hok rfl
          replace hst : v_lreturn rs pc L st h2 = some (.inr res) := hst
          unfold v_lreturn at hst
          split at hst
          · cases hst
            exact W.lret B.exec B.bytes (B.returns.trans (of_decide_eq_true ho)) (hq _ rfl) hS2.2.2 hd
          · cases hst
        · have hd := u_okd hok rfl
          have hr : ∃ rt, (mt mi).2.2.2.1 = some rt ∧ ((∃ n, rt = .object n) ∨ ∃ t, rt = .array t) := by
            replace ho : ok_art (mt mi).2.2.2.1 = true := ho
            unfold ok_art at ho
            split at ho
            · exact ⟨_, by assumption, Or.inl ⟨_, rfl⟩⟩
            · exact ⟨_, by assumption, Or.inr ⟨_, rfl⟩⟩
            · cases ho
          obtain ⟨rt, hr1, hr2'⟩ := hr
          replace hst : v_areturn rs pc L st h2 = some (.inr res) := hst
          unfold v_areturn at hst
          split at hst
          · cases hst
            exact W.aret B.exec B.bytes (B.returns.trans hr1) hr2' (Or.inr ⟨_, rfl⟩) (hq _ rfl) hS2.2.2 hd
          · cases hst
            exact W.aret B.exec B.bytes (B.returns.trans hr1) hr2' (Or.inl rfl) (hq _ rfl) hS2.2.2 hd
          · cases hst
        · have hd := u_okd hok rfl
          replace hst : v_return rs pc L st h2 = some (.inr res) := hst
          unfold v_return at hst
          split at hst
          · cases hst
            exact W.vret B.exec B.bytes (B.returns.trans (of_decide_eq_true ho)) (hq _ rfl) hS2.2.2 hd
          · cases hst
end Exec2
