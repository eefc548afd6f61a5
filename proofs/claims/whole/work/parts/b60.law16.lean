theorem ko_l16 : ((kl_306.drop 640).take 40).all ko_f = true := by decide +kernel
