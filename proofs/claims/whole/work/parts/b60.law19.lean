theorem ko_l19 : ((kl_306.drop 760).take 40).all ko_f = true := by decide +kernel
