theorem ko_l12 : ((kl_306.drop 480).take 40).all ko_f = true := by decide +kernel
