/-! ===== end: both alike ===== -/
section EndS
variable {c11 c12 : Cl} {B B2 l : Nat} {p : Int32}
theorem q_end (h1 : cI c11 1 B = nI l) (h2 : cI c12 1 B2 = nI l) (hl : l ≤ 400) : ∃ rx rm, F_124 c11 B p = some rx ∧ F_175 c12 B2 p = some rm ∧ rx.1 = rm.1 ∧ ((rx.2 = c11 ∧ rm.2 = c12) ∨ ∃ n, n ≤ l ∧ rx.2 = sI c11 1 B (nI n) ∧ rm.2 = sI c12 1 B2 (nI n)) := by
  unfold F_124 F_175
  rw [h1, h2]
  by_cases q : p < 0
  · exact ⟨_, _, in_pos q rfl, in_pos q rfl, rfl, Or.inl ⟨rfl, rfl⟩⟩
  · by_cases w : p ≤ nI l
    · obtain ⟨n, hn, rfl⟩ := nI_of2 (M := nI l) (n := l) (nI_toInt (by omega)) q w
      exact ⟨_, _, in_neg q (in_pos w rfl), in_neg q (in_pos w rfl), rfl, Or.inr ⟨n, hn, rfl, rfl⟩⟩
    · exact ⟨_, _, in_neg q (in_neg w rfl), in_neg q (in_neg w rfl), rfl, Or.inl ⟨rfl, rfl⟩⟩
end EndS
