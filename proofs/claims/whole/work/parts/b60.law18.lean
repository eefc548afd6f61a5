theorem ko_l18 : ((kl_306.drop 720).take 40).all ko_f = true := by decide +kernel
