/-! the same of the law, some blocks at a time -/
set_option maxRecDepth 100000 in
theorem zk_314_12 : ((zm_314.2.2.2.2.drop 48).take 4).all (fun z => zz_okB zh_314 zm_314 z.2.1 z.1 z.2.2) = true := by decide +kernel
set_option maxRecDepth 100000 in
theorem zk_314_13 : ((zm_314.2.2.2.2.drop 52).take 4).all (fun z => zz_okB zh_314 zm_314 z.2.1 z.1 z.2.2) = true := by decide +kernel
set_option maxRecDepth 100000 in
theorem zk_314_14 : ((zm_314.2.2.2.2.drop 56).take 4).all (fun z => zz_okB zh_314 zm_314 z.2.1 z.1 z.2.2) = true := by decide +kernel
theorem zk_split {α : Type} {f : α → Bool} {L : List α} (n k : Nat) (a : ((L.drop n).take k).all f = true) (b : (L.drop (n + k)).all f = true) : (L.drop n).all f = true := by
  rw [← List.take_append_drop k (L.drop n), List.all_append, a, List.drop_drop, b]
  rfl
theorem zk_314 : zz_okM zh_314 zm_314 = true := by
  unfold zz_okM
  rw [Bool.and_eq_true]
  refine And.intro (by decide +kernel) ?_
  show (zm_314.2.2.2.2.drop 0).all _ = true
  refine zk_split 0 4 zk_314_0 ?_
  refine zk_split 4 4 zk_314_1 ?_
  refine zk_split 8 4 zk_314_2 ?_
  refine zk_split 12 4 zk_314_3 ?_
  refine zk_split 16 4 zk_314_4 ?_
  refine zk_split 20 4 zk_314_5 ?_
  refine zk_split 24 4 zk_314_6 ?_
  refine zk_split 28 4 zk_314_7 ?_
  refine zk_split 32 4 zk_314_8 ?_
  refine zk_split 36 4 zk_314_9 ?_
  refine zk_split 40 4 zk_314_10 ?_
  refine zk_split 44 4 zk_314_11 ?_
  refine zk_split 48 4 zk_314_12 ?_
  refine zk_split 52 4 zk_314_13 ?_
  refine zk_split 56 4 zk_314_14 ?_
  rfl
