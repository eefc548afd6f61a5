theorem ko_l13 : ((kl_306.drop 520).take 40).all ko_f = true := by decide +kernel
