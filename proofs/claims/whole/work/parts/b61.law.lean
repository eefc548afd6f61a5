theorem ko_law : u_okl um306 kl_306 = true := by
  have e : ∀ (n : Nat) (l : List (Nat × UI × Nat)), (l.take n).all ko_f = true → (l.drop n).all ko_f = true → l.all ko_f = true := fun n l h1 h2 => by
    rw [← List.take_append_drop n l, List.all_append, h1, h2]; rfl
  show kl_306.all ko_f = true
  have hN : (kl_306.drop 840).all ko_f = true := by
    have hl : kl_306.length ≤ 840 := by decide +kernel
    have : kl_306.drop 840 = [] := List.drop_eq_nil_of_le hl
    rw [this]; rfl
  have h20 : (kl_306.drop 800).all ko_f = true := e 40 _ ko_l20 (by rw [List.drop_drop]; exact hN)
  have h19 : (kl_306.drop 760).all ko_f = true := e 40 _ ko_l19 (by rw [List.drop_drop]; exact h20)
  have h18 : (kl_306.drop 720).all ko_f = true := e 40 _ ko_l18 (by rw [List.drop_drop]; exact h19)
  have h17 : (kl_306.drop 680).all ko_f = true := e 40 _ ko_l17 (by rw [List.drop_drop]; exact h18)
  have h16 : (kl_306.drop 640).all ko_f = true := e 40 _ ko_l16 (by rw [List.drop_drop]; exact h17)
  have h15 : (kl_306.drop 600).all ko_f = true := e 40 _ ko_l15 (by rw [List.drop_drop]; exact h16)
  have h14 : (kl_306.drop 560).all ko_f = true := e 40 _ ko_l14 (by rw [List.drop_drop]; exact h15)
  have h13 : (kl_306.drop 520).all ko_f = true := e 40 _ ko_l13 (by rw [List.drop_drop]; exact h14)
  have h12 : (kl_306.drop 480).all ko_f = true := e 40 _ ko_l12 (by rw [List.drop_drop]; exact h13)
  have h11 : (kl_306.drop 440).all ko_f = true := e 40 _ ko_l11 (by rw [List.drop_drop]; exact h12)
  have h10 : (kl_306.drop 400).all ko_f = true := e 40 _ ko_l10 (by rw [List.drop_drop]; exact h11)
  have h9 : (kl_306.drop 360).all ko_f = true := e 40 _ ko_l9 (by rw [List.drop_drop]; exact h10)
  have h8 : (kl_306.drop 320).all ko_f = true := e 40 _ ko_l8 (by rw [List.drop_drop]; exact h9)
  have h7 : (kl_306.drop 280).all ko_f = true := e 40 _ ko_l7 (by rw [List.drop_drop]; exact h8)
  have h6 : (kl_306.drop 240).all ko_f = true := e 40 _ ko_l6 (by rw [List.drop_drop]; exact h7)
  have h5 : (kl_306.drop 200).all ko_f = true := e 40 _ ko_l5 (by rw [List.drop_drop]; exact h6)
  have h4 : (kl_306.drop 160).all ko_f = true := e 40 _ ko_l4 (by rw [List.drop_drop]; exact h5)
  have h3 : (kl_306.drop 120).all ko_f = true := e 40 _ ko_l3 (by rw [List.drop_drop]; exact h4)
  have h2 : (kl_306.drop 80).all ko_f = true := e 40 _ ko_l2 (by rw [List.drop_drop]; exact h3)
  have h1 : (kl_306.drop 40).all ko_f = true := e 40 _ ko_l1 (by rw [List.drop_drop]; exact h2)
  have h0 : (kl_306.drop 0).all ko_f = true := e 40 _ ko_l0 (by rw [List.drop_drop]; exact h1)
  exact h0
