/-! ===== what stays of the texts: the one constant text, two statics of the library ===== -/
def wB : List Int32 := [104, 101, 97, 100, 32, 104, 97, 108, 118, 101, 115, 32, 97, 116, 32, 104, 111, 109, 101, 32, 99, 97, 109, 101, 32, 104, 101, 114, 101, 32, 102, 101, 119, 32, 99, 114, 111, 119, 100, 32, 108, 101, 97, 115, 116, 32, 103, 114, 101, 97, 116, 101, 115, 116, 32, 103, 111, 110, 101, 32, 109, 105, 110, 117, 116, 101, 32, 114, 111, 111, 109, 115, 32, 100, 111, 111, 114, 32, 100, 101, 108, 97, 121, 32, 109, 111, 115, 116, 32, 115, 101, 110, 115, 101, 32, 108, 105, 110, 103, 101, 114, 32, 103, 111, 32, 105, 102, 32, 97, 110, 100, 32, 111, 114, 32, 110, 111, 116, 32]
def wTx : String := "head halves at home came here few crowd least greatest gone minute rooms door delay most sense linger go if and or not "
def u_Tx (base : Nat) (U : State) (H : Heap) : Prop := va_Nw (.castable "[I" "java/lang/Cloneable") U ∧ va_Z "java/lang/String" "COMPACT_STRINGS" "Z" (.int 1) (fun q => base ≤ q) U H ∧ va_Zq "jdk/internal/util/Preconditions" "SIOOBE_FORMATTER" "Ljava/util/function/BiFunction;" (fun q => base ≤ q) U H ∧ ∃ adK adV : Nat → Nat, vk_S 1 [119] [wB] adK adV (fun q => base ≤ q) U H ∧ vk_R "HeadCounts$Reader" 61 wTx (adK 0) U
theorem u_Tx.kept {base : Nat} {U : State} {H H1 : Heap} (h : u_Tx base U H) (hq : ∀ a : Nat, a < H.size → ¬ base ≤ a → H1[a]? = H[a]?) : u_Tx base U H1 := by
  obtain ⟨h0, h1, h2, adK, adV, h3, h4⟩ := h
  exact ⟨h0, h1.kept hq, h2.imp (fun z => z.kept hq) (fun ⟨t, z⟩ => ⟨t, z.kept hq⟩), adK, adV, h3.kept hq, h4⟩
theorem u_Tx.same {base : Nat} {u U : State} {H : Heap} (hv : U.vm = u.vm) (h : u_Tx base u H) : u_Tx base U H := by
  obtain ⟨h0, h1, h2, adK, adV, h3, h4⟩ := h
  have ha : u.vm.Alike U.vm := by rw [hv]; exact Vm.Alike.refl _
  exact ⟨va_Nw.same rfl hv.symm h0, va_Z.moved ha h1, h2.imp (fun z => va_Z.moved ha z) (fun ⟨t, z⟩ => ⟨t, va_Z.moved ha z⟩), adK, adV, vk_S.moved ha h3, vk_R.same hv h4⟩
theorem u_Tx.warm {base : Nat} {s U : State} {H : Heap} (hW : s.WarmedH U.vm) (h : u_Tx base s H) : u_Tx base U H := by
  obtain ⟨h0, h1, h2, adK, adV, h3, h4⟩ := h
  exact ⟨va_Nw.warmC hW h0, va_Z.moved hW.alike h1, h2.imp (fun z => va_Z.moved hW.alike z) (fun ⟨t, z⟩ => ⟨t, va_Z.moved hW.alike z⟩), adK, adV, vk_S.moved hW.alike h3, vk_R.warm hW h4⟩
/-- the script and the text -/
def u_X (base b Ls : Nat) (xs : Nat → Int32) (U : State) (H : Heap) : Prop := va_X b Ls xs U H ∧ u_Tx base U H
