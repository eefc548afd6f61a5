theorem ko_l15 : ((kl_306.drop 600).take 40).all ko_f = true := by decide +kernel
