theorem zt_a (F : zz_F) (I : Nat → Nat → Int32) (J : Nat → Nat → Int64) (d : Nat) (x : Int32) (y : Int32) (k1 : vp_in ((7 * x) + y) 84) : zz_run (d) 207 0 [some (.ref 52), some (.int (x)), some (.int (y))] [] (zz_S F I J) (some (.int (I 54 ((7 * x) + y).toNatClampNeg))) (zz_S F (I) (J)) := by
  refine zz_step rfl ?_
  repeat' first | refine And.intro rfl ?_ | refine And.intro (Or.inl rfl) ?_ | refine And.intro (Or.inr rfl) ?_ | refine And.intro (Nat.le_of_ble_eq_true rfl) ?_ | refine And.intro (And.intro rfl rfl) ?_ | exact rfl | refine zz_step rfl ?_
  refine And.intro (k1) ?_
  repeat' first | refine And.intro rfl ?_ | refine And.intro (Or.inl rfl) ?_ | refine And.intro (Or.inr rfl) ?_ | refine And.intro (Nat.le_of_ble_eq_true rfl) ?_ | refine And.intro (And.intro rfl rfl) ?_ | exact rfl | refine zz_step rfl ?_
