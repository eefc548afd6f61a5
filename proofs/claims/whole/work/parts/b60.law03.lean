theorem ko_l3 : ((kl_306.drop 120).take 40).all ko_f = true := by decide +kernel
