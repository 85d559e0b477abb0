/-! the same of the law, some blocks at a time -/
set_option maxRecDepth 100000 in
theorem zk_314_8 : ((zm_314.2.2.2.2.drop 32).take 4).all (fun z => zz_okB zh_314 zm_314 z.2.1 z.1 z.2.2) = true := by decide +kernel
set_option maxRecDepth 100000 in
theorem zk_314_9 : ((zm_314.2.2.2.2.drop 36).take 4).all (fun z => zz_okB zh_314 zm_314 z.2.1 z.1 z.2.2) = true := by decide +kernel
set_option maxRecDepth 100000 in
theorem zk_314_10 : ((zm_314.2.2.2.2.drop 40).take 4).all (fun z => zz_okB zh_314 zm_314 z.2.1 z.1 z.2.2) = true := by decide +kernel
set_option maxRecDepth 100000 in
theorem zk_314_11 : ((zm_314.2.2.2.2.drop 44).take 4).all (fun z => zz_okB zh_314 zm_314 z.2.1 z.1 z.2.2) = true := by decide +kernel
