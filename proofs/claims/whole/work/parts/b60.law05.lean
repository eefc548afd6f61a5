theorem ko_l5 : ((kl_306.drop 200).take 40).all ko_f = true := by decide +kernel
