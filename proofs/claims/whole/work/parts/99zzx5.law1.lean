/-! the same of the law, some blocks at a time -/
set_option maxRecDepth 100000 in
theorem zk_314_4 : ((zm_314.2.2.2.2.drop 16).take 4).all (fun z => zz_okB zh_314 zm_314 z.2.1 z.1 z.2.2) = true := by decide +kernel
set_option maxRecDepth 100000 in
theorem zk_314_5 : ((zm_314.2.2.2.2.drop 20).take 4).all (fun z => zz_okB zh_314 zm_314 z.2.1 z.1 z.2.2) = true := by decide +kernel
set_option maxRecDepth 100000 in
theorem zk_314_6 : ((zm_314.2.2.2.2.drop 24).take 4).all (fun z => zz_okB zh_314 zm_314 z.2.1 z.1 z.2.2) = true := by decide +kernel
set_option maxRecDepth 100000 in
theorem zk_314_7 : ((zm_314.2.2.2.2.drop 28).take 4).all (fun z => zz_okB zh_314 zm_314 z.2.1 z.1 z.2.2) = true := by decide +kernel
