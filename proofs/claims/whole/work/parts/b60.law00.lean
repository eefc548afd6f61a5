/-! ===== the law's own code, checked in pieces ===== -/
abbrev um306 : UM := (x, code, 4, ret, 1, 99, 1)
def ko_f (q : Nat × UI × Nat) : Bool := u_ok um306.1.cls um306.2.1 um306.2.2.2.1 (um306.2.2.2.2.1 == 2 || um306.2.2.2.2.1 == 3) q.1 q.2.1 q.2.2 && c_okb um306.1.cls q.2.1 q.2.2
theorem ko_l0 : ((kl_306.drop 0).take 40).all ko_f = true := by decide +kernel
