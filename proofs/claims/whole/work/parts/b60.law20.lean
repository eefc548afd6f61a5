theorem ko_l20 : ((kl_306.drop 800).take 40).all ko_f = true := by decide +kernel
