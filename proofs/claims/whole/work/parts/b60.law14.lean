theorem ko_l14 : ((kl_306.drop 560).take 40).all ko_f = true := by decide +kernel
