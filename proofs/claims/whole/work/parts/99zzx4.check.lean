/-! the kernel holds the tables against the bytes: printed by wip/whole/checks.py -/
set_option maxRecDepth 100000 in
theorem zk_315 : zz_okM [(5, [1263, 109, 1260, 1261, 1262])] zm_315 = true := by decide +kernel
set_option maxRecDepth 100000 in
theorem zk_316 : zz_okM [(5, [1335, 109, 1332, 1333, 1334])] zm_316 = true := by decide +kernel
set_option maxRecDepth 100000 in
theorem zk_317 : zz_okM [(4, [1343, 109, 1340, 1341, 1342])] zm_317 = true := by decide +kernel
