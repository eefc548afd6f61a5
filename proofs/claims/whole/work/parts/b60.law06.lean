theorem ko_l6 : ((kl_306.drop 240).take 40).all ko_f = true := by decide +kernel
