theorem ko_l8 : ((kl_306.drop 320).take 40).all ko_f = true := by decide +kernel
