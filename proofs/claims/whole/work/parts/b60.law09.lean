theorem ko_l9 : ((kl_306.drop 360).take 40).all ko_f = true := by decide +kernel
