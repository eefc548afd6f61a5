theorem ko_l2 : ((kl_306.drop 80).take 40).all ko_f = true := by decide +kernel
