theorem ko_l4 : ((kl_306.drop 160).take 40).all ko_f = true := by decide +kernel
