theorem ko_l17 : ((kl_306.drop 680).take 40).all ko_f = true := by decide +kernel
