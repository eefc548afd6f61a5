theorem ko_l1 : ((kl_306.drop 40).take 40).all ko_f = true := by decide +kernel
