theorem ko_l10 : ((kl_306.drop 400).take 40).all ko_f = true := by decide +kernel
