theorem ko_l7 : ((kl_306.drop 280).take 40).all ko_f = true := by decide +kernel
