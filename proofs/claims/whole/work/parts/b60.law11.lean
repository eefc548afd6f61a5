theorem ko_l11 : ((kl_306.drop 440).take 40).all ko_f = true := by decide +kernel
