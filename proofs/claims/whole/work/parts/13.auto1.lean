/-! contracts printed by wip/whole/auto.py -/
def zw_X0_begin (I : Nat → Nat → Int32)  : Nat → Nat → Int32 := zz_u I 40 0 0
theorem zr_X0_begin (F : zz_F) (I : Nat → Nat → Int32) (J : Nat → Nat → Int64) (d : Nat)  : zz_run (d) 1 0 [some (.ref 40)] [] (zz_S F I J) none (zz_S F (zw_X0_begin I) (J)) := by
  unfold zw_X0_begin
  refine zs_1_0 ?_
  repeat' first | refine And.intro rfl ?_ | refine And.intro (Or.inl rfl) ?_ | refine And.intro (Or.inr rfl) ?_ | refine And.intro (Nat.le_of_ble_eq_true rfl) ?_ | refine And.intro (And.intro rfl rfl) ?_ | exact rfl
def zv_X0_mayEnd (I : Nat → Nat → Int32)  : Int32 := if ¬ (I 40 0) = 0 then 0 else 1
theorem zr_X0_mayEnd (F : zz_F) (I : Nat → Nat → Int32) (J : Nat → Nat → Int64) (d : Nat)  : zz_run (d) 2 0 [some (.ref 40)] [] (zz_S F I J) (some (.int (zv_X0_mayEnd I))) (zz_S F (I) (J)) := by
  unfold zv_X0_mayEnd
  refine zs_2_0 ?_
  repeat' first | refine And.intro rfl ?_ | refine And.intro (Or.inl rfl) ?_ | refine And.intro (Or.inr rfl) ?_ | refine And.intro (Nat.le_of_ble_eq_true rfl) ?_ | refine And.intro (And.intro rfl rfl) ?_ | exact rfl
  refine And.intro (fun (h1 : ¬ (I 40 0) = 0) => ?_) (fun (h1 : ¬ (¬ (I 40 0) = 0)) => ?_)
  · try simp only [if_pos h1]
    refine zs_2_11 ?_
    repeat' first | refine And.intro rfl ?_ | refine And.intro (Or.inl rfl) ?_ | refine And.intro (Or.inr rfl) ?_ | refine And.intro (Nat.le_of_ble_eq_true rfl) ?_ | refine And.intro (And.intro rfl rfl) ?_ | exact rfl
    refine zs_2_12 ?_
    repeat' first | refine And.intro rfl ?_ | refine And.intro (Or.inl rfl) ?_ | refine And.intro (Or.inr rfl) ?_ | refine And.intro (Nat.le_of_ble_eq_true rfl) ?_ | refine And.intro (And.intro rfl rfl) ?_ | exact rfl
  · try simp only [if_neg h1]
    repeat' first | refine And.intro rfl ?_ | refine And.intro (Or.inl rfl) ?_ | refine And.intro (Or.inr rfl) ?_ | refine And.intro (Nat.le_of_ble_eq_true rfl) ?_ | refine And.intro (And.intro rfl rfl) ?_ | exact rfl
    refine zs_2_12 ?_
    repeat' first | refine And.intro rfl ?_ | refine And.intro (Or.inl rfl) ?_ | refine And.intro (Or.inr rfl) ?_ | refine And.intro (Nat.le_of_ble_eq_true rfl) ?_ | refine And.intro (And.intro rfl rfl) ?_ | exact rfl
theorem zb_X0_mayEnd (I : Nat → Nat → Int32)  : zv_X0_mayEnd I = 0 ∨ zv_X0_mayEnd I = 1 := by
  unfold zv_X0_mayEnd
  repeat' first | split | exact Or.inl rfl | exact Or.inr rfl
def zv_X0_takes (I : Nat → Nat → Int32) (x : Int32) : Int32 := if ¬ (I 40 0) = 120 then (if ¬ (I 40 0) = 119 then (if x = 120 then 1 else (if ¬ x = 119 then (if x = 48 then 1 else (if ¬ x = 49 then 0 else 1)) else 1)) else (if x < 48 then 0 else (if 57 < x then 0 else 1))) else (if x < 97 then 0 else (if 108 < x then 0 else 1))
def zw_X0_takes (I : Nat → Nat → Int32) (x : Int32) : Nat → Nat → Int32 := if ¬ (I 40 0) = 120 then (if ¬ (I 40 0) = 119 then (if x = 120 then (zz_u I 40 0 x) else (if ¬ x = 119 then I else (zz_u I 40 0 x))) else (zz_u I 40 0 0)) else (zz_u I 40 0 0)
theorem zr_X0_takes (F : zz_F) (I : Nat → Nat → Int32) (J : Nat → Nat → Int64) (d : Nat) (x : Int32) : zz_run (d) 3 0 [some (.ref 40), some (.int (x))] [] (zz_S F I J) (some (.int (zv_X0_takes I x))) (zz_S F (zw_X0_takes I x) (J)) := by
  unfold zv_X0_takes zw_X0_takes
  refine zs_3_0 ?_
  repeat' first | refine And.intro rfl ?_ | refine And.intro (Or.inl rfl) ?_ | refine And.intro (Or.inr rfl) ?_ | refine And.intro (Nat.le_of_ble_eq_true rfl) ?_ | refine And.intro (And.intro rfl rfl) ?_ | exact rfl
  refine And.intro (fun (h1 : ¬ (I 40 0) = 120) => ?_) (fun (h1 : ¬ (¬ (I 40 0) = 120)) => ?_)
  · try simp only [if_pos h1]
    refine zs_3_32 ?_
    repeat' first | refine And.intro rfl ?_ | refine And.intro (Or.inl rfl) ?_ | refine And.intro (Or.inr rfl) ?_ | refine And.intro (Nat.le_of_ble_eq_true rfl) ?_ | refine And.intro (And.intro rfl rfl) ?_ | exact rfl
    refine And.intro (fun (h2 : ¬ (I 40 0) = 119) => ?_) (fun (h2 : ¬ (¬ (I 40 0) = 119)) => ?_)
    · try simp only [if_pos h2]
      refine zs_3_64 ?_
      repeat' first | refine And.intro rfl ?_ | refine And.intro (Or.inl rfl) ?_ | refine And.intro (Or.inr rfl) ?_ | refine And.intro (Nat.le_of_ble_eq_true rfl) ?_ | refine And.intro (And.intro rfl rfl) ?_ | exact rfl
      refine And.intro (fun (h3 : x = 120) => ?_) (fun (h3 : ¬ (x = 120)) => ?_)
      · try simp only [if_pos h3]
        refine zs_3_76 ?_
        repeat' first | refine And.intro rfl ?_ | refine And.intro (Or.inl rfl) ?_ | refine And.intro (Or.inr rfl) ?_ | refine And.intro (Nat.le_of_ble_eq_true rfl) ?_ | refine And.intro (And.intro rfl rfl) ?_ | exact rfl
      · try simp only [if_neg h3]
        repeat' first | refine And.intro rfl ?_ | refine And.intro (Or.inl rfl) ?_ | refine And.intro (Or.inr rfl) ?_ | refine And.intro (Nat.le_of_ble_eq_true rfl) ?_ | refine And.intro (And.intro rfl rfl) ?_ | exact rfl
        refine And.intro (fun (h4 : ¬ x = 119) => ?_) (fun (h4 : ¬ (¬ x = 119)) => ?_)
        · try simp only [if_pos h4]
          refine zs_3_83 ?_
          repeat' first | refine And.intro rfl ?_ | refine And.intro (Or.inl rfl) ?_ | refine And.intro (Or.inr rfl) ?_ | refine And.intro (Nat.le_of_ble_eq_true rfl) ?_ | refine And.intro (And.intro rfl rfl) ?_ | exact rfl
          refine And.intro (fun (h5 : x = 48) => ?_) (fun (h5 : ¬ (x = 48)) => ?_)
          · try simp only [if_pos h5]
            refine zs_3_95 ?_
            repeat' first | refine And.intro rfl ?_ | refine And.intro (Or.inl rfl) ?_ | refine And.intro (Or.inr rfl) ?_ | refine And.intro (Nat.le_of_ble_eq_true rfl) ?_ | refine And.intro (And.intro rfl rfl) ?_ | exact rfl
            refine zs_3_100 ?_
            repeat' first | refine And.intro rfl ?_ | refine And.intro (Or.inl rfl) ?_ | refine And.intro (Or.inr rfl) ?_ | refine And.intro (Nat.le_of_ble_eq_true rfl) ?_ | refine And.intro (And.intro rfl rfl) ?_ | exact rfl
          · try simp only [if_neg h5]
            repeat' first | refine And.intro rfl ?_ | refine And.intro (Or.inl rfl) ?_ | refine And.intro (Or.inr rfl) ?_ | refine And.intro (Nat.le_of_ble_eq_true rfl) ?_ | refine And.intro (And.intro rfl rfl) ?_ | exact rfl
            refine And.intro (fun (h6 : ¬ x = 49) => ?_) (fun (h6 : ¬ (¬ x = 49)) => ?_)
            · try simp only [if_pos h6]
              refine zs_3_99 ?_
              repeat' first | refine And.intro rfl ?_ | refine And.intro (Or.inl rfl) ?_ | refine And.intro (Or.inr rfl) ?_ | refine And.intro (Nat.le_of_ble_eq_true rfl) ?_ | refine And.intro (And.intro rfl rfl) ?_ | exact rfl
              refine zs_3_100 ?_
              repeat' first | refine And.intro rfl ?_ | refine And.intro (Or.inl rfl) ?_ | refine And.intro (Or.inr rfl) ?_ | refine And.intro (Nat.le_of_ble_eq_true rfl) ?_ | refine And.intro (And.intro rfl rfl) ?_ | exact rfl
            · try simp only [if_neg h6]
              repeat' first | refine And.intro rfl ?_ | refine And.intro (Or.inl rfl) ?_ | refine And.intro (Or.inr rfl) ?_ | refine And.intro (Nat.le_of_ble_eq_true rfl) ?_ | refine And.intro (And.intro rfl rfl) ?_ | exact rfl
              refine zs_3_95 ?_
              repeat' first | refine And.intro rfl ?_ | refine And.intro (Or.inl rfl) ?_ | refine And.intro (Or.inr rfl) ?_ | refine And.intro (Nat.le_of_ble_eq_true rfl) ?_ | refine And.intro (And.intro rfl rfl) ?_ | exact rfl
              refine zs_3_100 ?_
              repeat' first | refine And.intro rfl ?_ | refine And.intro (Or.inl rfl) ?_ | refine And.intro (Or.inr rfl) ?_ | refine And.intro (Nat.le_of_ble_eq_true rfl) ?_ | refine And.intro (And.intro rfl rfl) ?_ | exact rfl
        · try simp only [if_neg h4]
          repeat' first | refine And.intro rfl ?_ | refine And.intro (Or.inl rfl) ?_ | refine And.intro (Or.inr rfl) ?_ | refine And.intro (Nat.le_of_ble_eq_true rfl) ?_ | refine And.intro (And.intro rfl rfl) ?_ | exact rfl
          refine zs_3_76 ?_
          repeat' first | refine And.intro rfl ?_ | refine And.intro (Or.inl rfl) ?_ | refine And.intro (Or.inr rfl) ?_ | refine And.intro (Nat.le_of_ble_eq_true rfl) ?_ | refine And.intro (And.intro rfl rfl) ?_ | exact rfl
    · try simp only [if_neg h2]
      repeat' first | refine And.intro rfl ?_ | refine And.intro (Or.inl rfl) ?_ | refine And.intro (Or.inr rfl) ?_ | refine And.intro (Nat.le_of_ble_eq_true rfl) ?_ | refine And.intro (And.intro rfl rfl) ?_ | exact rfl
      refine And.intro (fun (h7 : x < 48) => ?_) (fun (h7 : ¬ (x < 48)) => ?_)
      · try simp only [if_pos h7]
        refine zs_3_62 ?_
        repeat' first | refine And.intro rfl ?_ | refine And.intro (Or.inl rfl) ?_ | refine And.intro (Or.inr rfl) ?_ | refine And.intro (Nat.le_of_ble_eq_true rfl) ?_ | refine And.intro (And.intro rfl rfl) ?_ | exact rfl
        refine zs_3_63 ?_
        repeat' first | refine And.intro rfl ?_ | refine And.intro (Or.inl rfl) ?_ | refine And.intro (Or.inr rfl) ?_ | refine And.intro (Nat.le_of_ble_eq_true rfl) ?_ | refine And.intro (And.intro rfl rfl) ?_ | exact rfl
      · try simp only [if_neg h7]
        repeat' first | refine And.intro rfl ?_ | refine And.intro (Or.inl rfl) ?_ | refine And.intro (Or.inr rfl) ?_ | refine And.intro (Nat.le_of_ble_eq_true rfl) ?_ | refine And.intro (And.intro rfl rfl) ?_ | exact rfl
        refine And.intro (fun (h8 : 57 < x) => ?_) (fun (h8 : ¬ (57 < x)) => ?_)
        · try simp only [if_pos h8]
          refine zs_3_62 ?_
          repeat' first | refine And.intro rfl ?_ | refine And.intro (Or.inl rfl) ?_ | refine And.intro (Or.inr rfl) ?_ | refine And.intro (Nat.le_of_ble_eq_true rfl) ?_ | refine And.intro (And.intro rfl rfl) ?_ | exact rfl
          refine zs_3_63 ?_
          repeat' first | refine And.intro rfl ?_ | refine And.intro (Or.inl rfl) ?_ | refine And.intro (Or.inr rfl) ?_ | refine And.intro (Nat.le_of_ble_eq_true rfl) ?_ | refine And.intro (And.intro rfl rfl) ?_ | exact rfl
        · try simp only [if_neg h8]
          repeat' first | refine And.intro rfl ?_ | refine And.intro (Or.inl rfl) ?_ | refine And.intro (Or.inr rfl) ?_ | refine And.intro (Nat.le_of_ble_eq_true rfl) ?_ | refine And.intro (And.intro rfl rfl) ?_ | exact rfl
          refine zs_3_63 ?_
          repeat' first | refine And.intro rfl ?_ | refine And.intro (Or.inl rfl) ?_ | refine And.intro (Or.inr rfl) ?_ | refine And.intro (Nat.le_of_ble_eq_true rfl) ?_ | refine And.intro (And.intro rfl rfl) ?_ | exact rfl
  · try simp only [if_neg h1]
    repeat' first | refine And.intro rfl ?_ | refine And.intro (Or.inl rfl) ?_ | refine And.intro (Or.inr rfl) ?_ | refine And.intro (Nat.le_of_ble_eq_true rfl) ?_ | refine And.intro (And.intro rfl rfl) ?_ | exact rfl
    refine And.intro (fun (h9 : x < 97) => ?_) (fun (h9 : ¬ (x < 97)) => ?_)
    · try simp only [if_pos h9]
      refine zs_3_30 ?_
      repeat' first | refine And.intro rfl ?_ | refine And.intro (Or.inl rfl) ?_ | refine And.intro (Or.inr rfl) ?_ | refine And.intro (Nat.le_of_ble_eq_true rfl) ?_ | refine And.intro (And.intro rfl rfl) ?_ | exact rfl
      refine zs_3_31 ?_
      repeat' first | refine And.intro rfl ?_ | refine And.intro (Or.inl rfl) ?_ | refine And.intro (Or.inr rfl) ?_ | refine And.intro (Nat.le_of_ble_eq_true rfl) ?_ | refine And.intro (And.intro rfl rfl) ?_ | exact rfl
    · try simp only [if_neg h9]
      repeat' first | refine And.intro rfl ?_ | refine And.intro (Or.inl rfl) ?_ | refine And.intro (Or.inr rfl) ?_ | refine And.intro (Nat.le_of_ble_eq_true rfl) ?_ | refine And.intro (And.intro rfl rfl) ?_ | exact rfl
      refine And.intro (fun (h10 : 108 < x) => ?_) (fun (h10 : ¬ (108 < x)) => ?_)
      · try simp only [if_pos h10]
        refine zs_3_30 ?_
        repeat' first | refine And.intro rfl ?_ | refine And.intro (Or.inl rfl) ?_ | refine And.intro (Or.inr rfl) ?_ | refine And.intro (Nat.le_of_ble_eq_true rfl) ?_ | refine And.intro (And.intro rfl rfl) ?_ | exact rfl
        refine zs_3_31 ?_
        repeat' first | refine And.intro rfl ?_ | refine And.intro (Or.inl rfl) ?_ | refine And.intro (Or.inr rfl) ?_ | refine And.intro (Nat.le_of_ble_eq_true rfl) ?_ | refine And.intro (And.intro rfl rfl) ?_ | exact rfl
      · try simp only [if_neg h10]
        repeat' first | refine And.intro rfl ?_ | refine And.intro (Or.inl rfl) ?_ | refine And.intro (Or.inr rfl) ?_ | refine And.intro (Nat.le_of_ble_eq_true rfl) ?_ | refine And.intro (And.intro rfl rfl) ?_ | exact rfl
        refine zs_3_31 ?_
        repeat' first | refine And.intro rfl ?_ | refine And.intro (Or.inl rfl) ?_ | refine And.intro (Or.inr rfl) ?_ | refine And.intro (Nat.le_of_ble_eq_true rfl) ?_ | refine And.intro (And.intro rfl rfl) ?_ | exact rfl
theorem zb_X0_takes (I : Nat → Nat → Int32) (x : Int32) : zv_X0_takes I x = 0 ∨ zv_X0_takes I x = 1 := by
  unfold zv_X0_takes
  repeat' first | split | exact Or.inl rfl | exact Or.inr rfl
def zw_X1_growStale (I : Nat → Nat → Int32)  : Nat → Nat → Int32 := zz_u I 28 4 0
theorem zr_X1_growStale (F : zz_F) (I : Nat → Nat → Int32) (J : Nat → Nat → Int64) (d : Nat)  : zz_run (d) 8 0 [some (.ref 28)] [] (zz_S F I J) none (zz_S F (zw_X1_growStale I) (J)) := by
  unfold zw_X1_growStale
  refine zs_8_0 ?_
  repeat' first | refine And.intro rfl ?_ | refine And.intro (Or.inl rfl) ?_ | refine And.intro (Or.inr rfl) ?_ | refine And.intro (Nat.le_of_ble_eq_true rfl) ?_ | refine And.intro (And.intro rfl rfl) ?_ | exact rfl
def zw_X1_growStale_32 (I : Nat → Nat → Int32)  : Nat → Nat → Int32 := zz_u I 32 4 0
theorem zr_X1_growStale_32 (F : zz_F) (I : Nat → Nat → Int32) (J : Nat → Nat → Int64) (d : Nat)  : zz_run (d) 8 0 [some (.ref 32)] [] (zz_S F I J) none (zz_S F (zw_X1_growStale_32 I) (J)) := by
  unfold zw_X1_growStale_32
  refine zs_8_0 ?_
  repeat' first | refine And.intro rfl ?_ | refine And.intro (Or.inl rfl) ?_ | refine And.intro (Or.inr rfl) ?_ | refine And.intro (Nat.le_of_ble_eq_true rfl) ?_ | refine And.intro (And.intro rfl rfl) ?_ | exact rfl
def zv_X1_between (I : Nat → Nat → Int32) (x : Int32) (y : Int32) : Int32 := if x < 0 then 0 else (if 12 ≤ x then 0 else (if y < 0 then 0 else (if y < 12 then (I 31 (((x * 12) + y).toNatClampNeg)) else 0)))
theorem zr_X1_between (F : zz_F) (I : Nat → Nat → Int32) (J : Nat → Nat → Int64) (d : Nat) (x : Int32) (y : Int32) (k1 : (¬ (x < 0)) → (¬ (12 ≤ x)) → (¬ (y < 0)) → (y < 12) → (vp_in ((x * 12) + y) 144)) : zz_run (d) 10 0 [some (.ref 28), some (.int (x)), some (.int (y))] [] (zz_S F I J) (some (.int (zv_X1_between I x y))) (zz_S F (I) (J)) := by
  unfold zv_X1_between
  refine zs_10_0 ?_
  repeat' first | refine And.intro rfl ?_ | refine And.intro (Or.inl rfl) ?_ | refine And.intro (Or.inr rfl) ?_ | refine And.intro (Nat.le_of_ble_eq_true rfl) ?_ | refine And.intro (And.intro rfl rfl) ?_ | exact rfl
  refine And.intro (fun (h1 : x < 0) => ?_) (fun (h1 : ¬ (x < 0)) => ?_)
  · try simp only [if_pos h1]
    refine zs_10_20 ?_
    repeat' first | refine And.intro rfl ?_ | refine And.intro (Or.inl rfl) ?_ | refine And.intro (Or.inr rfl) ?_ | refine And.intro (Nat.le_of_ble_eq_true rfl) ?_ | refine And.intro (And.intro rfl rfl) ?_ | exact rfl
  · try simp only [if_neg h1]
    repeat' first | refine And.intro rfl ?_ | refine And.intro (Or.inl rfl) ?_ | refine And.intro (Or.inr rfl) ?_ | refine And.intro (Nat.le_of_ble_eq_true rfl) ?_ | refine And.intro (And.intro rfl rfl) ?_ | exact rfl
    refine And.intro (fun (h2 : 12 ≤ x) => ?_) (fun (h2 : ¬ (12 ≤ x)) => ?_)
    · try simp only [if_pos h2]
      refine zs_10_20 ?_
      repeat' first | refine And.intro rfl ?_ | refine And.intro (Or.inl rfl) ?_ | refine And.intro (Or.inr rfl) ?_ | refine And.intro (Nat.le_of_ble_eq_true rfl) ?_ | refine And.intro (And.intro rfl rfl) ?_ | exact rfl
    · try simp only [if_neg h2]
      repeat' first | refine And.intro rfl ?_ | refine And.intro (Or.inl rfl) ?_ | refine And.intro (Or.inr rfl) ?_ | refine And.intro (Nat.le_of_ble_eq_true rfl) ?_ | refine And.intro (And.intro rfl rfl) ?_ | exact rfl
      refine And.intro (fun (h3 : y < 0) => ?_) (fun (h3 : ¬ (y < 0)) => ?_)
      · try simp only [if_pos h3]
        refine zs_10_20 ?_
        repeat' first | refine And.intro rfl ?_ | refine And.intro (Or.inl rfl) ?_ | refine And.intro (Or.inr rfl) ?_ | refine And.intro (Nat.le_of_ble_eq_true rfl) ?_ | refine And.intro (And.intro rfl rfl) ?_ | exact rfl
      · try simp only [if_neg h3]
        repeat' first | refine And.intro rfl ?_ | refine And.intro (Or.inl rfl) ?_ | refine And.intro (Or.inr rfl) ?_ | refine And.intro (Nat.le_of_ble_eq_true rfl) ?_ | refine And.intro (And.intro rfl rfl) ?_ | exact rfl
        refine And.intro (fun (h4 : y < 12) => ?_) (fun (h4 : ¬ (y < 12)) => ?_)
        · try simp only [if_pos h4]
          refine zs_10_22 ?_
          repeat' first | refine And.intro rfl ?_ | refine And.intro (Or.inl rfl) ?_ | refine And.intro (Or.inr rfl) ?_ | refine And.intro (Nat.le_of_ble_eq_true rfl) ?_ | refine And.intro (And.intro rfl rfl) ?_ | exact rfl
          refine And.intro ((k1 h1 h2 h3 h4)) ?_
          repeat' first | refine And.intro rfl ?_ | refine And.intro (Or.inl rfl) ?_ | refine And.intro (Or.inr rfl) ?_ | refine And.intro (Nat.le_of_ble_eq_true rfl) ?_ | refine And.intro (And.intro rfl rfl) ?_ | exact rfl
        · try simp only [if_neg h4]
          repeat' first | refine And.intro rfl ?_ | refine And.intro (Or.inl rfl) ?_ | refine And.intro (Or.inr rfl) ?_ | refine And.intro (Nat.le_of_ble_eq_true rfl) ?_ | refine And.intro (And.intro rfl rfl) ?_ | exact rfl
          refine zs_10_20 ?_
          repeat' first | refine And.intro rfl ?_ | refine And.intro (Or.inl rfl) ?_ | refine And.intro (Or.inr rfl) ?_ | refine And.intro (Nat.le_of_ble_eq_true rfl) ?_ | refine And.intro (And.intro rfl rfl) ?_ | exact rfl
def zv_X1_between_32 (I : Nat → Nat → Int32) (x : Int32) (y : Int32) : Int32 := if x < 0 then 0 else (if 12 ≤ x then 0 else (if y < 0 then 0 else (if y < 12 then (I 35 (((x * 12) + y).toNatClampNeg)) else 0)))
theorem zr_X1_between_32 (F : zz_F) (I : Nat → Nat → Int32) (J : Nat → Nat → Int64) (d : Nat) (x : Int32) (y : Int32) (k1 : (¬ (x < 0)) → (¬ (12 ≤ x)) → (¬ (y < 0)) → (y < 12) → (vp_in ((x * 12) + y) 144)) : zz_run (d) 10 0 [some (.ref 32), some (.int (x)), some (.int (y))] [] (zz_S F I J) (some (.int (zv_X1_between_32 I x y))) (zz_S F (I) (J)) := by
  unfold zv_X1_between_32
  refine zs_10_0 ?_
  repeat' first | refine And.intro rfl ?_ | refine And.intro (Or.inl rfl) ?_ | refine And.intro (Or.inr rfl) ?_ | refine And.intro (Nat.le_of_ble_eq_true rfl) ?_ | refine And.intro (And.intro rfl rfl) ?_ | exact rfl
  refine And.intro (fun (h1 : x < 0) => ?_) (fun (h1 : ¬ (x < 0)) => ?_)
  · try simp only [if_pos h1]
    refine zs_10_20 ?_
    repeat' first | refine And.intro rfl ?_ | refine And.intro (Or.inl rfl) ?_ | refine And.intro (Or.inr rfl) ?_ | refine And.intro (Nat.le_of_ble_eq_true rfl) ?_ | refine And.intro (And.intro rfl rfl) ?_ | exact rfl
  · try simp only [if_neg h1]
    repeat' first | refine And.intro rfl ?_ | refine And.intro (Or.inl rfl) ?_ | refine And.intro (Or.inr rfl) ?_ | refine And.intro (Nat.le_of_ble_eq_true rfl) ?_ | refine And.intro (And.intro rfl rfl) ?_ | exact rfl
    refine And.intro (fun (h2 : 12 ≤ x) => ?_) (fun (h2 : ¬ (12 ≤ x)) => ?_)
    · try simp only [if_pos h2]
      refine zs_10_20 ?_
      repeat' first | refine And.intro rfl ?_ | refine And.intro (Or.inl rfl) ?_ | refine And.intro (Or.inr rfl) ?_ | refine And.intro (Nat.le_of_ble_eq_true rfl) ?_ | refine And.intro (And.intro rfl rfl) ?_ | exact rfl
    · try simp only [if_neg h2]
      repeat' first | refine And.intro rfl ?_ | refine And.intro (Or.inl rfl) ?_ | refine And.intro (Or.inr rfl) ?_ | refine And.intro (Nat.le_of_ble_eq_true rfl) ?_ | refine And.intro (And.intro rfl rfl) ?_ | exact rfl
      refine And.intro (fun (h3 : y < 0) => ?_) (fun (h3 : ¬ (y < 0)) => ?_)
      · try simp only [if_pos h3]
        refine zs_10_20 ?_
        repeat' first | refine And.intro rfl ?_ | refine And.intro (Or.inl rfl) ?_ | refine And.intro (Or.inr rfl) ?_ | refine And.intro (Nat.le_of_ble_eq_true rfl) ?_ | refine And.intro (And.intro rfl rfl) ?_ | exact rfl
      · try simp only [if_neg h3]
        repeat' first | refine And.intro rfl ?_ | refine And.intro (Or.inl rfl) ?_ | refine And.intro (Or.inr rfl) ?_ | refine And.intro (Nat.le_of_ble_eq_true rfl) ?_ | refine And.intro (And.intro rfl rfl) ?_ | exact rfl
        refine And.intro (fun (h4 : y < 12) => ?_) (fun (h4 : ¬ (y < 12)) => ?_)
        · try simp only [if_pos h4]
          refine zs_10_22 ?_
          repeat' first | refine And.intro rfl ?_ | refine And.intro (Or.inl rfl) ?_ | refine And.intro (Or.inr rfl) ?_ | refine And.intro (Nat.le_of_ble_eq_true rfl) ?_ | refine And.intro (And.intro rfl rfl) ?_ | exact rfl
          refine And.intro ((k1 h1 h2 h3 h4)) ?_
          repeat' first | refine And.intro rfl ?_ | refine And.intro (Or.inl rfl) ?_ | refine And.intro (Or.inr rfl) ?_ | refine And.intro (Nat.le_of_ble_eq_true rfl) ?_ | refine And.intro (And.intro rfl rfl) ?_ | exact rfl
        · try simp only [if_neg h4]
          repeat' first | refine And.intro rfl ?_ | refine And.intro (Or.inl rfl) ?_ | refine And.intro (Or.inr rfl) ?_ | refine And.intro (Nat.le_of_ble_eq_true rfl) ?_ | refine And.intro (And.intro rfl rfl) ?_ | exact rfl
          refine zs_10_20 ?_
          repeat' first | refine And.intro rfl ?_ | refine And.intro (Or.inl rfl) ?_ | refine And.intro (Or.inr rfl) ?_ | refine And.intro (Nat.le_of_ble_eq_true rfl) ?_ | refine And.intro (And.intro rfl rfl) ?_ | exact rfl
def zv_X1_pushed (I : Nat → Nat → Int32) (x : Int32) (y : Int32) : Int32 := if x < 0 then x else (if x < (nI 40) then (x + 1) else x)
def zw_X1_pushed (I : Nat → Nat → Int32) (x : Int32) (y : Int32) : Nat → Nat → Int32 := if x < 0 then I else (if x < (nI 40) then (zz_u I 30 x.toNatClampNeg y) else I)
theorem zr_X1_pushed (F : zz_F) (I : Nat → Nat → Int32) (J : Nat → Nat → Int64) (d : Nat) (x : Int32) (y : Int32) : zz_run (d) 12 0 [some (.ref 28), some (.int (x)), some (.int (y))] [] (zz_S F I J) (some (.int (zv_X1_pushed I x y))) (zz_S F (zw_X1_pushed I x y) (J)) := by
  unfold zv_X1_pushed zw_X1_pushed
  refine zs_12_0 ?_
  repeat' first | refine And.intro rfl ?_ | refine And.intro (Or.inl rfl) ?_ | refine And.intro (Or.inr rfl) ?_ | refine And.intro (Nat.le_of_ble_eq_true rfl) ?_ | refine And.intro (And.intro rfl rfl) ?_ | exact rfl
  refine And.intro (fun (h1 : x < 0) => ?_) (fun (h1 : ¬ (x < 0)) => ?_)
  · try simp only [if_pos h1]
    refine zs_12_13 ?_
    repeat' first | refine And.intro rfl ?_ | refine And.intro (Or.inl rfl) ?_ | refine And.intro (Or.inr rfl) ?_ | refine And.intro (Nat.le_of_ble_eq_true rfl) ?_ | refine And.intro (And.intro rfl rfl) ?_ | exact rfl
  · try simp only [if_neg h1]
    repeat' first | refine And.intro rfl ?_ | refine And.intro (Or.inl rfl) ?_ | refine And.intro (Or.inr rfl) ?_ | refine And.intro (Nat.le_of_ble_eq_true rfl) ?_ | refine And.intro (And.intro rfl rfl) ?_ | exact rfl
    refine And.intro (fun (h2 : x < (nI 40)) => ?_) (fun (h2 : ¬ (x < (nI 40))) => ?_)
    · try simp only [if_pos h2]
      refine zs_12_15 ?_
      repeat' first | refine And.intro rfl ?_ | refine And.intro (Or.inl rfl) ?_ | refine And.intro (Or.inr rfl) ?_ | refine And.intro (Nat.le_of_ble_eq_true rfl) ?_ | refine And.intro (And.intro rfl rfl) ?_ | exact rfl
      refine And.intro (zz_vin (n := 40) h1 (zz_lt_nle h2) (Nat.le_of_ble_eq_true rfl)) ?_
      repeat' first | refine And.intro rfl ?_ | refine And.intro (Or.inl rfl) ?_ | refine And.intro (Or.inr rfl) ?_ | refine And.intro (Nat.le_of_ble_eq_true rfl) ?_ | refine And.intro (And.intro rfl rfl) ?_ | exact rfl
    · try simp only [if_neg h2]
      repeat' first | refine And.intro rfl ?_ | refine And.intro (Or.inl rfl) ?_ | refine And.intro (Or.inr rfl) ?_ | refine And.intro (Nat.le_of_ble_eq_true rfl) ?_ | refine And.intro (And.intro rfl rfl) ?_ | exact rfl
      refine zs_12_13 ?_
      repeat' first | refine And.intro rfl ?_ | refine And.intro (Or.inl rfl) ?_ | refine And.intro (Or.inr rfl) ?_ | refine And.intro (Nat.le_of_ble_eq_true rfl) ?_ | refine And.intro (And.intro rfl rfl) ?_ | exact rfl
def zv_X1_pushed_32 (I : Nat → Nat → Int32) (x : Int32) (y : Int32) : Int32 := if x < 0 then x else (if x < (nI 40) then (x + 1) else x)
def zw_X1_pushed_32 (I : Nat → Nat → Int32) (x : Int32) (y : Int32) : Nat → Nat → Int32 := if x < 0 then I else (if x < (nI 40) then (zz_u I 34 x.toNatClampNeg y) else I)
theorem zr_X1_pushed_32 (F : zz_F) (I : Nat → Nat → Int32) (J : Nat → Nat → Int64) (d : Nat) (x : Int32) (y : Int32) : zz_run (d) 12 0 [some (.ref 32), some (.int (x)), some (.int (y))] [] (zz_S F I J) (some (.int (zv_X1_pushed_32 I x y))) (zz_S F (zw_X1_pushed_32 I x y) (J)) := by
  unfold zv_X1_pushed_32 zw_X1_pushed_32
  refine zs_12_0 ?_
  repeat' first | refine And.intro rfl ?_ | refine And.intro (Or.inl rfl) ?_ | refine And.intro (Or.inr rfl) ?_ | refine And.intro (Nat.le_of_ble_eq_true rfl) ?_ | refine And.intro (And.intro rfl rfl) ?_ | exact rfl
  refine And.intro (fun (h1 : x < 0) => ?_) (fun (h1 : ¬ (x < 0)) => ?_)
  · try simp only [if_pos h1]
    refine zs_12_13 ?_
    repeat' first | refine And.intro rfl ?_ | refine And.intro (Or.inl rfl) ?_ | refine And.intro (Or.inr rfl) ?_ | refine And.intro (Nat.le_of_ble_eq_true rfl) ?_ | refine And.intro (And.intro rfl rfl) ?_ | exact rfl
  · try simp only [if_neg h1]
    repeat' first | refine And.intro rfl ?_ | refine And.intro (Or.inl rfl) ?_ | refine And.intro (Or.inr rfl) ?_ | refine And.intro (Nat.le_of_ble_eq_true rfl) ?_ | refine And.intro (And.intro rfl rfl) ?_ | exact rfl
    refine And.intro (fun (h2 : x < (nI 40)) => ?_) (fun (h2 : ¬ (x < (nI 40))) => ?_)
    · try simp only [if_pos h2]
      refine zs_12_15 ?_
      repeat' first | refine And.intro rfl ?_ | refine And.intro (Or.inl rfl) ?_ | refine And.intro (Or.inr rfl) ?_ | refine And.intro (Nat.le_of_ble_eq_true rfl) ?_ | refine And.intro (And.intro rfl rfl) ?_ | exact rfl
      refine And.intro (zz_vin (n := 40) h1 (zz_lt_nle h2) (Nat.le_of_ble_eq_true rfl)) ?_
      repeat' first | refine And.intro rfl ?_ | refine And.intro (Or.inl rfl) ?_ | refine And.intro (Or.inr rfl) ?_ | refine And.intro (Nat.le_of_ble_eq_true rfl) ?_ | refine And.intro (And.intro rfl rfl) ?_ | exact rfl
    · try simp only [if_neg h2]
      repeat' first | refine And.intro rfl ?_ | refine And.intro (Or.inl rfl) ?_ | refine And.intro (Or.inr rfl) ?_ | refine And.intro (Nat.le_of_ble_eq_true rfl) ?_ | refine And.intro (And.intro rfl rfl) ?_ | exact rfl
      refine zs_12_13 ?_
      repeat' first | refine And.intro rfl ?_ | refine And.intro (Or.inl rfl) ?_ | refine And.intro (Or.inr rfl) ?_ | refine And.intro (Nat.le_of_ble_eq_true rfl) ?_ | refine And.intro (And.intro rfl rfl) ?_ | exact rfl
def zv_X2_weightOf (I : Nat → Nat → Int32) (x : Int32) : Int32 := if x < 0 then 0 else (if (nI 13) ≤ x then 0 else (I 50 x.toNatClampNeg))
theorem zr_X2_weightOf (F : zz_F) (I : Nat → Nat → Int32) (J : Nat → Nat → Int64) (d : Nat) (x : Int32) : zz_run (d) 22 0 [some (.ref 49), some (.int (x))] [] (zz_S F I J) (some (.int (zv_X2_weightOf I x))) (zz_S F (I) (J)) := by
  unfold zv_X2_weightOf
  refine zs_22_0 ?_
  repeat' first | refine And.intro rfl ?_ | refine And.intro (Or.inl rfl) ?_ | refine And.intro (Or.inr rfl) ?_ | refine And.intro (Nat.le_of_ble_eq_true rfl) ?_ | refine And.intro (And.intro rfl rfl) ?_ | exact rfl
  refine And.intro (fun (h1 : x < 0) => ?_) (fun (h1 : ¬ (x < 0)) => ?_)
  · try simp only [if_pos h1]
    refine zs_22_22 ?_
    repeat' first | refine And.intro rfl ?_ | refine And.intro (Or.inl rfl) ?_ | refine And.intro (Or.inr rfl) ?_ | refine And.intro (Nat.le_of_ble_eq_true rfl) ?_ | refine And.intro (And.intro rfl rfl) ?_ | exact rfl
    refine zs_22_23 ?_
    repeat' first | refine And.intro rfl ?_ | refine And.intro (Or.inl rfl) ?_ | refine And.intro (Or.inr rfl) ?_ | refine And.intro (Nat.le_of_ble_eq_true rfl) ?_ | refine And.intro (And.intro rfl rfl) ?_ | exact rfl
  · try simp only [if_neg h1]
    repeat' first | refine And.intro rfl ?_ | refine And.intro (Or.inl rfl) ?_ | refine And.intro (Or.inr rfl) ?_ | refine And.intro (Nat.le_of_ble_eq_true rfl) ?_ | refine And.intro (And.intro rfl rfl) ?_ | exact rfl
    refine And.intro (fun (h2 : (nI 13) ≤ x) => ?_) (fun (h2 : ¬ ((nI 13) ≤ x)) => ?_)
    · try simp only [if_pos h2]
      refine zs_22_22 ?_
      repeat' first | refine And.intro rfl ?_ | refine And.intro (Or.inl rfl) ?_ | refine And.intro (Or.inr rfl) ?_ | refine And.intro (Nat.le_of_ble_eq_true rfl) ?_ | refine And.intro (And.intro rfl rfl) ?_ | exact rfl
      refine zs_22_23 ?_
      repeat' first | refine And.intro rfl ?_ | refine And.intro (Or.inl rfl) ?_ | refine And.intro (Or.inr rfl) ?_ | refine And.intro (Nat.le_of_ble_eq_true rfl) ?_ | refine And.intro (And.intro rfl rfl) ?_ | exact rfl
    · try simp only [if_neg h2]
      repeat' first | refine And.intro rfl ?_ | refine And.intro (Or.inl rfl) ?_ | refine And.intro (Or.inr rfl) ?_ | refine And.intro (Nat.le_of_ble_eq_true rfl) ?_ | refine And.intro (And.intro rfl rfl) ?_ | exact rfl
      refine And.intro (zz_vin (n := 13) h1 h2 (Nat.le_of_ble_eq_true rfl)) ?_
      repeat' first | refine And.intro rfl ?_ | refine And.intro (Or.inl rfl) ?_ | refine And.intro (Or.inr rfl) ?_ | refine And.intro (Nat.le_of_ble_eq_true rfl) ?_ | refine And.intro (And.intro rfl rfl) ?_ | exact rfl
      refine zs_22_23 ?_
      repeat' first | refine And.intro rfl ?_ | refine And.intro (Or.inl rfl) ?_ | refine And.intro (Or.inr rfl) ?_ | refine And.intro (Nat.le_of_ble_eq_true rfl) ?_ | refine And.intro (And.intro rfl rfl) ?_ | exact rfl
def zv_X2_share (x : Int32) (y : Int32) (z : Int32) : Int32 := if x < (y + z) then (zz_max 0 ((x / 2) - (zz_max 0 (y - (x / 2))))) else y
theorem zr_X2_share (F : zz_F) (I : Nat → Nat → Int32) (J : Nat → Nat → Int64) (d : Nat) (x : Int32) (y : Int32) (z : Int32) : zz_run (d+1) 24 0 [some (.int (x)), some (.int (y)), some (.int (z)), none] [] (zz_S F I J) (some (.int (zv_X2_share x y z))) (zz_S F (I) (J)) := by
  unfold zv_X2_share
  refine zs_24_0 ?_
  repeat' first | refine And.intro rfl ?_ | refine And.intro (Or.inl rfl) ?_ | refine And.intro (Or.inr rfl) ?_ | refine And.intro (Nat.le_of_ble_eq_true rfl) ?_ | refine And.intro (And.intro rfl rfl) ?_ | exact rfl
  refine And.intro (fun (h1 : x < (y + z)) => ?_) (fun (h1 : ¬ (x < (y + z))) => ?_)
  · try simp only [if_pos h1]
    refine zs_24_9 ?_
    repeat' first | refine And.intro rfl ?_ | refine And.intro (Or.inl rfl) ?_ | refine And.intro (Or.inr rfl) ?_ | refine And.intro (Nat.le_of_ble_eq_true rfl) ?_ | refine And.intro (And.intro rfl rfl) ?_ | exact rfl
    refine And.intro ((by decide : ¬ (2 : Int32) = 0)) ?_
    repeat' first | refine And.intro rfl ?_ | refine And.intro (Or.inl rfl) ?_ | refine And.intro (Or.inr rfl) ?_ | refine And.intro (Nat.le_of_ble_eq_true rfl) ?_ | refine And.intro (And.intro rfl rfl) ?_ | exact rfl
    refine Exists.intro _ (Exists.intro _ (And.intro (zr_max F I J d 0 (y - (x / 2))) ?_))
    repeat' first | refine And.intro rfl ?_ | refine And.intro (Or.inl rfl) ?_ | refine And.intro (Or.inr rfl) ?_ | refine And.intro (Nat.le_of_ble_eq_true rfl) ?_ | refine And.intro (And.intro rfl rfl) ?_ | exact rfl
    refine Exists.intro _ (Exists.intro _ (And.intro (zr_max F I J d 0 ((x / 2) - (zz_max 0 (y - (x / 2))))) ?_))
    repeat' first | refine And.intro rfl ?_ | refine And.intro (Or.inl rfl) ?_ | refine And.intro (Or.inr rfl) ?_ | refine And.intro (Nat.le_of_ble_eq_true rfl) ?_ | refine And.intro (And.intro rfl rfl) ?_ | exact rfl
  · try simp only [if_neg h1]
    repeat' first | refine And.intro rfl ?_ | refine And.intro (Or.inl rfl) ?_ | refine And.intro (Or.inr rfl) ?_ | refine And.intro (Nat.le_of_ble_eq_true rfl) ?_ | refine And.intro (And.intro rfl rfl) ?_ | exact rfl
def zv_X2_leadWith (I : Nat → Nat → Int32) (x : Int32) : Int32 := if x < 0 then 0 else (if (nI 41) ≤ x then 0 else (I 51 x.toNatClampNeg))
theorem zr_X2_leadWith (F : zz_F) (I : Nat → Nat → Int32) (J : Nat → Nat → Int64) (d : Nat) (x : Int32) : zz_run (d) 27 0 [some (.ref 49), some (.int (x))] [] (zz_S F I J) (some (.int (zv_X2_leadWith I x))) (zz_S F (I) (J)) := by
  unfold zv_X2_leadWith
  refine zs_27_0 ?_
  repeat' first | refine And.intro rfl ?_ | refine And.intro (Or.inl rfl) ?_ | refine And.intro (Or.inr rfl) ?_ | refine And.intro (Nat.le_of_ble_eq_true rfl) ?_ | refine And.intro (And.intro rfl rfl) ?_ | exact rfl
  refine And.intro (fun (h1 : x < 0) => ?_) (fun (h1 : ¬ (x < 0)) => ?_)
  · try simp only [if_pos h1]
    refine zs_27_22 ?_
    repeat' first | refine And.intro rfl ?_ | refine And.intro (Or.inl rfl) ?_ | refine And.intro (Or.inr rfl) ?_ | refine And.intro (Nat.le_of_ble_eq_true rfl) ?_ | refine And.intro (And.intro rfl rfl) ?_ | exact rfl
    refine zs_27_23 ?_
    repeat' first | refine And.intro rfl ?_ | refine And.intro (Or.inl rfl) ?_ | refine And.intro (Or.inr rfl) ?_ | refine And.intro (Nat.le_of_ble_eq_true rfl) ?_ | refine And.intro (And.intro rfl rfl) ?_ | exact rfl
  · try simp only [if_neg h1]
    repeat' first | refine And.intro rfl ?_ | refine And.intro (Or.inl rfl) ?_ | refine And.intro (Or.inr rfl) ?_ | refine And.intro (Nat.le_of_ble_eq_true rfl) ?_ | refine And.intro (And.intro rfl rfl) ?_ | exact rfl
    refine And.intro (fun (h2 : (nI 41) ≤ x) => ?_) (fun (h2 : ¬ ((nI 41) ≤ x)) => ?_)
    · try simp only [if_pos h2]
      refine zs_27_22 ?_
      repeat' first | refine And.intro rfl ?_ | refine And.intro (Or.inl rfl) ?_ | refine And.intro (Or.inr rfl) ?_ | refine And.intro (Nat.le_of_ble_eq_true rfl) ?_ | refine And.intro (And.intro rfl rfl) ?_ | exact rfl
      refine zs_27_23 ?_
      repeat' first | refine And.intro rfl ?_ | refine And.intro (Or.inl rfl) ?_ | refine And.intro (Or.inr rfl) ?_ | refine And.intro (Nat.le_of_ble_eq_true rfl) ?_ | refine And.intro (And.intro rfl rfl) ?_ | exact rfl
    · try simp only [if_neg h2]
      repeat' first | refine And.intro rfl ?_ | refine And.intro (Or.inl rfl) ?_ | refine And.intro (Or.inr rfl) ?_ | refine And.intro (Nat.le_of_ble_eq_true rfl) ?_ | refine And.intro (And.intro rfl rfl) ?_ | exact rfl
      refine And.intro (zz_vin (n := 41) h1 h2 (Nat.le_of_ble_eq_true rfl)) ?_
      repeat' first | refine And.intro rfl ?_ | refine And.intro (Or.inl rfl) ?_ | refine And.intro (Or.inr rfl) ?_ | refine And.intro (Nat.le_of_ble_eq_true rfl) ?_ | refine And.intro (And.intro rfl rfl) ?_ | exact rfl
      refine zs_27_23 ?_
      repeat' first | refine And.intro rfl ?_ | refine And.intro (Or.inl rfl) ?_ | refine And.intro (Or.inr rfl) ?_ | refine And.intro (Nat.le_of_ble_eq_true rfl) ?_ | refine And.intro (And.intro rfl rfl) ?_ | exact rfl
def zv_X2_leadByTaking (I : Nat → Nat → Int32) (x : Int32) (y : Int32) : Int32 := if ¬ y = x then (y - (zv_X2_leadWith I (x - y))) else (y - 4)
theorem zr_X2_leadByTaking (F : zz_F) (I : Nat → Nat → Int32) (J : Nat → Nat → Int64) (d : Nat) (x : Int32) (y : Int32) : zz_run (d+1) 28 0 [some (.ref 49), some (.int (x)), some (.int (y))] [] (zz_S F I J) (some (.int (zv_X2_leadByTaking I x y))) (zz_S F (I) (J)) := by
  unfold zv_X2_leadByTaking
  refine zs_28_0 ?_
  repeat' first | refine And.intro rfl ?_ | refine And.intro (Or.inl rfl) ?_ | refine And.intro (Or.inr rfl) ?_ | refine And.intro (Nat.le_of_ble_eq_true rfl) ?_ | refine And.intro (And.intro rfl rfl) ?_ | exact rfl
  refine And.intro (fun (h1 : ¬ y = x) => ?_) (fun (h1 : ¬ (¬ y = x)) => ?_)
  · try simp only [if_pos h1]
    refine zs_28_11 ?_
    repeat' first | refine And.intro rfl ?_ | refine And.intro (Or.inl rfl) ?_ | refine And.intro (Or.inr rfl) ?_ | refine And.intro (Nat.le_of_ble_eq_true rfl) ?_ | refine And.intro (And.intro rfl rfl) ?_ | exact rfl
    refine Exists.intro _ (Exists.intro _ (And.intro (zr_X2_leadWith F I J d (x - y)) ?_))
    repeat' first | refine And.intro rfl ?_ | refine And.intro (Or.inl rfl) ?_ | refine And.intro (Or.inr rfl) ?_ | refine And.intro (Nat.le_of_ble_eq_true rfl) ?_ | refine And.intro (And.intro rfl rfl) ?_ | exact rfl
    refine zs_28_20 ?_
    repeat' first | refine And.intro rfl ?_ | refine And.intro (Or.inl rfl) ?_ | refine And.intro (Or.inr rfl) ?_ | refine And.intro (Nat.le_of_ble_eq_true rfl) ?_ | refine And.intro (And.intro rfl rfl) ?_ | exact rfl
  · try simp only [if_neg h1]
    repeat' first | refine And.intro rfl ?_ | refine And.intro (Or.inl rfl) ?_ | refine And.intro (Or.inr rfl) ?_ | refine And.intro (Nat.le_of_ble_eq_true rfl) ?_ | refine And.intro (And.intro rfl rfl) ?_ | exact rfl
    refine zs_28_20 ?_
    repeat' first | refine And.intro rfl ?_ | refine And.intro (Or.inl rfl) ?_ | refine And.intro (Or.inr rfl) ?_ | refine And.intro (Nat.le_of_ble_eq_true rfl) ?_ | refine And.intro (And.intro rfl rfl) ?_ | exact rfl
def zv_X3_lineCount (I : Nat → Nat → Int32)  : Int32 := I 36 3
theorem zr_X3_lineCount (F : zz_F) (I : Nat → Nat → Int32) (J : Nat → Nat → Int64) (d : Nat)  : zz_run (d) 33 0 [some (.ref 36)] [] (zz_S F I J) (some (.int (zv_X3_lineCount I))) (zz_S F (I) (J)) := by
  unfold zv_X3_lineCount
  refine zs_33_0 ?_
  repeat' first | refine And.intro rfl ?_ | refine And.intro (Or.inl rfl) ?_ | refine And.intro (Or.inr rfl) ?_ | refine And.intro (Nat.le_of_ble_eq_true rfl) ?_ | refine And.intro (And.intro rfl rfl) ?_ | exact rfl
def zw_X3_begin (I : Nat → Nat → Int32)  : Nat → Nat → Int32 := zz_u (zz_u (zz_u I 36 1 0) 36 2 (I 5 2)) 36 3 0
theorem zr_X3_begin (F : zz_F) (I : Nat → Nat → Int32) (J : Nat → Nat → Int64) (d : Nat)  : zz_run (d) 34 0 [some (.ref 36)] [] (zz_S F I J) none (zz_S F (zw_X3_begin I) (J)) := by
  unfold zw_X3_begin
  refine zs_34_0 ?_
  repeat' first | refine And.intro rfl ?_ | refine And.intro (Or.inl rfl) ?_ | refine And.intro (Or.inr rfl) ?_ | refine And.intro (Nat.le_of_ble_eq_true rfl) ?_ | refine And.intro (And.intro rfl rfl) ?_ | exact rfl
def zv_X3_mayEnd (I : Nat → Nat → Int32)  : Int32 := if ¬ (I 36 1) = 9 then 0 else 1
theorem zr_X3_mayEnd (F : zz_F) (I : Nat → Nat → Int32) (J : Nat → Nat → Int64) (d : Nat)  : zz_run (d) 35 0 [some (.ref 36)] [] (zz_S F I J) (some (.int (zv_X3_mayEnd I))) (zz_S F (I) (J)) := by
  unfold zv_X3_mayEnd
  refine zs_35_0 ?_
  repeat' first | refine And.intro rfl ?_ | refine And.intro (Or.inl rfl) ?_ | refine And.intro (Or.inr rfl) ?_ | refine And.intro (Nat.le_of_ble_eq_true rfl) ?_ | refine And.intro (And.intro rfl rfl) ?_ | exact rfl
  refine And.intro (fun (h1 : ¬ (I 36 1) = 9) => ?_) (fun (h1 : ¬ (¬ (I 36 1) = 9)) => ?_)
  · try simp only [if_pos h1]
    refine zs_35_13 ?_
    repeat' first | refine And.intro rfl ?_ | refine And.intro (Or.inl rfl) ?_ | refine And.intro (Or.inr rfl) ?_ | refine And.intro (Nat.le_of_ble_eq_true rfl) ?_ | refine And.intro (And.intro rfl rfl) ?_ | exact rfl
    refine zs_35_14 ?_
    repeat' first | refine And.intro rfl ?_ | refine And.intro (Or.inl rfl) ?_ | refine And.intro (Or.inr rfl) ?_ | refine And.intro (Nat.le_of_ble_eq_true rfl) ?_ | refine And.intro (And.intro rfl rfl) ?_ | exact rfl
  · try simp only [if_neg h1]
    repeat' first | refine And.intro rfl ?_ | refine And.intro (Or.inl rfl) ?_ | refine And.intro (Or.inr rfl) ?_ | refine And.intro (Nat.le_of_ble_eq_true rfl) ?_ | refine And.intro (And.intro rfl rfl) ?_ | exact rfl
    refine zs_35_14 ?_
    repeat' first | refine And.intro rfl ?_ | refine And.intro (Or.inl rfl) ?_ | refine And.intro (Or.inr rfl) ?_ | refine And.intro (Nat.le_of_ble_eq_true rfl) ?_ | refine And.intro (And.intro rfl rfl) ?_ | exact rfl
theorem zb_X3_mayEnd (I : Nat → Nat → Int32)  : zv_X3_mayEnd I = 0 ∨ zv_X3_mayEnd I = 1 := by
  unfold zv_X3_mayEnd
  repeat' first | split | exact Or.inl rfl | exact Or.inr rfl
def zv_X3_takesNumber (I : Nat → Nat → Int32) (x : Int32) (y : Int32) (z : Int32) (w : Int32) (u : Int32) : Int32 := if x < y then 0 else (if x ≤ z then 1 else 0)
def zw_X3_takesNumber (I : Nat → Nat → Int32) (x : Int32) (y : Int32) (z : Int32) (w : Int32) (u : Int32) : Nat → Nat → Int32 := if x < y then I else (if x ≤ z then (zz_u (zz_putm I (I 36 2) w (x - u)) 36 1 (((zz_putm I (I 36 2) w (x - u)) 36 1) + 1)) else I)
theorem zr_X3_takesNumber (F : zz_F) (I : Nat → Nat → Int32) (J : Nat → Nat → Int64) (d : Nat) (x : Int32) (y : Int32) (z : Int32) (w : Int32) (u : Int32) : zz_run (d+1) 38 0 [some (.ref 36), some (.int (x)), some (.int (y)), some (.int (z)), some (.int (w)), some (.int (u))] [] (zz_S F I J) (some (.int (zv_X3_takesNumber I x y z w u))) (zz_S F (zw_X3_takesNumber I x y z w u) (J)) := by
  unfold zv_X3_takesNumber zw_X3_takesNumber
  refine zs_38_0 ?_
  repeat' first | refine And.intro rfl ?_ | refine And.intro (Or.inl rfl) ?_ | refine And.intro (Or.inr rfl) ?_ | refine And.intro (Nat.le_of_ble_eq_true rfl) ?_ | refine And.intro (And.intro rfl rfl) ?_ | exact rfl
  refine And.intro (fun (h1 : x < y) => ?_) (fun (h1 : ¬ (x < y)) => ?_)
  · try simp only [if_pos h1]
    refine zs_38_10 ?_
    repeat' first | refine And.intro rfl ?_ | refine And.intro (Or.inl rfl) ?_ | refine And.intro (Or.inr rfl) ?_ | refine And.intro (Nat.le_of_ble_eq_true rfl) ?_ | refine And.intro (And.intro rfl rfl) ?_ | exact rfl
  · try simp only [if_neg h1]
    repeat' first | refine And.intro rfl ?_ | refine And.intro (Or.inl rfl) ?_ | refine And.intro (Or.inr rfl) ?_ | refine And.intro (Nat.le_of_ble_eq_true rfl) ?_ | refine And.intro (And.intro rfl rfl) ?_ | exact rfl
    refine And.intro (fun (h2 : x ≤ z) => ?_) (fun (h2 : ¬ (x ≤ z)) => ?_)
    · try simp only [if_pos h2]
      refine zs_38_12 ?_
      repeat' first | refine And.intro rfl ?_ | refine And.intro (Or.inl rfl) ?_ | refine And.intro (Or.inr rfl) ?_ | refine And.intro (Nat.le_of_ble_eq_true rfl) ?_ | refine And.intro (And.intro rfl rfl) ?_ | exact rfl
      refine Exists.intro _ (Exists.intro _ (And.intro (zr_put F I J d (I 36 2) w (x - u)) ?_))
      repeat' first | refine And.intro rfl ?_ | refine And.intro (Or.inl rfl) ?_ | refine And.intro (Or.inr rfl) ?_ | refine And.intro (Nat.le_of_ble_eq_true rfl) ?_ | refine And.intro (And.intro rfl rfl) ?_ | exact rfl
    · try simp only [if_neg h2]
      repeat' first | refine And.intro rfl ?_ | refine And.intro (Or.inl rfl) ?_ | refine And.intro (Or.inr rfl) ?_ | refine And.intro (Nat.le_of_ble_eq_true rfl) ?_ | refine And.intro (And.intro rfl rfl) ?_ | exact rfl
      refine zs_38_10 ?_
      repeat' first | refine And.intro rfl ?_ | refine And.intro (Or.inl rfl) ?_ | refine And.intro (Or.inr rfl) ?_ | refine And.intro (Nat.le_of_ble_eq_true rfl) ?_ | refine And.intro (And.intro rfl rfl) ?_ | exact rfl
theorem zb_X3_takesNumber (I : Nat → Nat → Int32) (x : Int32) (y : Int32) (z : Int32) (w : Int32) (u : Int32) : zv_X3_takesNumber I x y z w u = 0 ∨ zv_X3_takesNumber I x y z w u = 1 := by
  unfold zv_X3_takesNumber
  repeat' first | split | exact Or.inl rfl | exact Or.inr rfl
def zv_X3_rises (I : Nat → Nat → Int32) (x : Int32) (y : Int32) : Int32 := if ((zz_f I (I 36 2) x) >>> (y &&& 31)) = 0 then 1 else 0
def zw_X3_rises (I : Nat → Nat → Int32) (x : Int32) (y : Int32) : Nat → Nat → Int32 := if ((zz_f I (I 36 2) x) >>> (y &&& 31)) = 0 then (zz_putm I (I 36 2) x ((zz_f I (I 36 2) x) ||| (1 <<< (y &&& 31)))) else I
theorem zr_X3_rises (F : zz_F) (I : Nat → Nat → Int32) (J : Nat → Nat → Int64) (d : Nat) (x : Int32) (y : Int32) : zz_run (d+1) 41 0 [some (.ref 36), some (.int (x)), some (.int (y)), none] [] (zz_S F I J) (some (.int (zv_X3_rises I x y))) (zz_S F (zw_X3_rises I x y) (J)) := by
  unfold zv_X3_rises zw_X3_rises
  refine zs_41_0 ?_
  repeat' first | refine And.intro rfl ?_ | refine And.intro (Or.inl rfl) ?_ | refine And.intro (Or.inr rfl) ?_ | refine And.intro (Nat.le_of_ble_eq_true rfl) ?_ | refine And.intro (And.intro rfl rfl) ?_ | exact rfl
  refine Exists.intro _ (Exists.intro _ (And.intro (zr_of F I J d (I 36 2) x) ?_))
  repeat' first | refine And.intro rfl ?_ | refine And.intro (Or.inl rfl) ?_ | refine And.intro (Or.inr rfl) ?_ | refine And.intro (Nat.le_of_ble_eq_true rfl) ?_ | refine And.intro (And.intro rfl rfl) ?_ | exact rfl
  refine And.intro (fun (h1 : ((zz_f I (I 36 2) x) >>> (y &&& 31)) = 0) => ?_) (fun (h1 : ¬ (((zz_f I (I 36 2) x) >>> (y &&& 31)) = 0)) => ?_)
  · try simp only [if_pos h1]
    refine zs_41_21 ?_
    repeat' first | refine And.intro rfl ?_ | refine And.intro (Or.inl rfl) ?_ | refine And.intro (Or.inr rfl) ?_ | refine And.intro (Nat.le_of_ble_eq_true rfl) ?_ | refine And.intro (And.intro rfl rfl) ?_ | exact rfl
    refine Exists.intro _ (Exists.intro _ (And.intro (zr_put F I J d (I 36 2) x ((zz_f I (I 36 2) x) ||| (1 <<< (y &&& 31)))) ?_))
    repeat' first | refine And.intro rfl ?_ | refine And.intro (Or.inl rfl) ?_ | refine And.intro (Or.inr rfl) ?_ | refine And.intro (Nat.le_of_ble_eq_true rfl) ?_ | refine And.intro (And.intro rfl rfl) ?_ | exact rfl
  · try simp only [if_neg h1]
    repeat' first | refine And.intro rfl ?_ | refine And.intro (Or.inl rfl) ?_ | refine And.intro (Or.inr rfl) ?_ | refine And.intro (Nat.le_of_ble_eq_true rfl) ?_ | refine And.intro (And.intro rfl rfl) ?_ | exact rfl
theorem zb_X3_rises (I : Nat → Nat → Int32) (x : Int32) (y : Int32) : zv_X3_rises I x y = 0 ∨ zv_X3_rises I x y = 1 := by
  unfold zv_X3_rises
  repeat' first | split | exact Or.inl rfl | exact Or.inr rfl
def zv_X3_takesMark (I : Nat → Nat → Int32) (x : Int32) : Int32 := if ¬ x = 62 then (if ¬ x = 60 then (if ¬ x = 61 then 0 else (if 7 < (I 36 1) then 0 else 1)) else (if 5 < (I 36 1) then (if ¬ x = 61 then 0 else (if 7 < (I 36 1) then 0 else 1)) else 1)) else (if 3 < (I 36 1) then (if ¬ x = 60 then (if ¬ x = 61 then 0 else (if 7 < (I 36 1) then 0 else 1)) else (if 5 < (I 36 1) then (if ¬ x = 61 then 0 else (if 7 < (I 36 1) then 0 else 1)) else 1)) else 1)
def zw_X3_takesMark (I : Nat → Nat → Int32) (x : Int32) : Nat → Nat → Int32 := if ¬ x = 62 then (if ¬ x = 60 then (if ¬ x = 61 then I else (if 7 < (I 36 1) then I else (zz_u I 36 1 8))) else (if 5 < (I 36 1) then (if ¬ x = 61 then I else (if 7 < (I 36 1) then I else (zz_u I 36 1 8))) else (zz_u I 36 1 6))) else (if 3 < (I 36 1) then (if ¬ x = 60 then (if ¬ x = 61 then I else (if 7 < (I 36 1) then I else (zz_u I 36 1 8))) else (if 5 < (I 36 1) then (if ¬ x = 61 then I else (if 7 < (I 36 1) then I else (zz_u I 36 1 8))) else (zz_u I 36 1 6))) else (zz_u I 36 1 4))
theorem zr_X3_takesMark (F : zz_F) (I : Nat → Nat → Int32) (J : Nat → Nat → Int64) (d : Nat) (x : Int32) : zz_run (d) 42 0 [some (.ref 36), some (.int (x))] [] (zz_S F I J) (some (.int (zv_X3_takesMark I x))) (zz_S F (zw_X3_takesMark I x) (J)) := by
  unfold zv_X3_takesMark zw_X3_takesMark
  refine zs_42_0 ?_
  repeat' first | refine And.intro rfl ?_ | refine And.intro (Or.inl rfl) ?_ | refine And.intro (Or.inr rfl) ?_ | refine And.intro (Nat.le_of_ble_eq_true rfl) ?_ | refine And.intro (And.intro rfl rfl) ?_ | exact rfl
  refine And.intro (fun (h1 : ¬ x = 62) => ?_) (fun (h1 : ¬ (¬ x = 62)) => ?_)
  · try simp only [if_pos h1]
    refine zs_42_21 ?_
    repeat' first | refine And.intro rfl ?_ | refine And.intro (Or.inl rfl) ?_ | refine And.intro (Or.inr rfl) ?_ | refine And.intro (Nat.le_of_ble_eq_true rfl) ?_ | refine And.intro (And.intro rfl rfl) ?_ | exact rfl
    refine And.intro (fun (h2 : ¬ x = 60) => ?_) (fun (h2 : ¬ (¬ x = 60)) => ?_)
    · try simp only [if_pos h2]
      refine zs_42_43 ?_
      repeat' first | refine And.intro rfl ?_ | refine And.intro (Or.inl rfl) ?_ | refine And.intro (Or.inr rfl) ?_ | refine And.intro (Nat.le_of_ble_eq_true rfl) ?_ | refine And.intro (And.intro rfl rfl) ?_ | exact rfl
      refine And.intro (fun (h3 : ¬ x = 61) => ?_) (fun (h3 : ¬ (¬ x = 61)) => ?_)
      · try simp only [if_pos h3]
        refine zs_42_66 ?_
        repeat' first | refine And.intro rfl ?_ | refine And.intro (Or.inl rfl) ?_ | refine And.intro (Or.inr rfl) ?_ | refine And.intro (Nat.le_of_ble_eq_true rfl) ?_ | refine And.intro (And.intro rfl rfl) ?_ | exact rfl
      · try simp only [if_neg h3]
        repeat' first | refine And.intro rfl ?_ | refine And.intro (Or.inl rfl) ?_ | refine And.intro (Or.inr rfl) ?_ | refine And.intro (Nat.le_of_ble_eq_true rfl) ?_ | refine And.intro (And.intro rfl rfl) ?_ | exact rfl
        refine And.intro (fun (h4 : 7 < (I 36 1)) => ?_) (fun (h4 : ¬ (7 < (I 36 1))) => ?_)
        · try simp only [if_pos h4]
          refine zs_42_66 ?_
          repeat' first | refine And.intro rfl ?_ | refine And.intro (Or.inl rfl) ?_ | refine And.intro (Or.inr rfl) ?_ | refine And.intro (Nat.le_of_ble_eq_true rfl) ?_ | refine And.intro (And.intro rfl rfl) ?_ | exact rfl
        · try simp only [if_neg h4]
          repeat' first | refine And.intro rfl ?_ | refine And.intro (Or.inl rfl) ?_ | refine And.intro (Or.inr rfl) ?_ | refine And.intro (Nat.le_of_ble_eq_true rfl) ?_ | refine And.intro (And.intro rfl rfl) ?_ | exact rfl
    · try simp only [if_neg h2]
      repeat' first | refine And.intro rfl ?_ | refine And.intro (Or.inl rfl) ?_ | refine And.intro (Or.inr rfl) ?_ | refine And.intro (Nat.le_of_ble_eq_true rfl) ?_ | refine And.intro (And.intro rfl rfl) ?_ | exact rfl
      refine And.intro (fun (h5 : 5 < (I 36 1)) => ?_) (fun (h5 : ¬ (5 < (I 36 1))) => ?_)
      · try simp only [if_pos h5]
        refine zs_42_43 ?_
        repeat' first | refine And.intro rfl ?_ | refine And.intro (Or.inl rfl) ?_ | refine And.intro (Or.inr rfl) ?_ | refine And.intro (Nat.le_of_ble_eq_true rfl) ?_ | refine And.intro (And.intro rfl rfl) ?_ | exact rfl
        refine And.intro (fun (h6 : ¬ x = 61) => ?_) (fun (h6 : ¬ (¬ x = 61)) => ?_)
        · try simp only [if_pos h6]
          refine zs_42_66 ?_
          repeat' first | refine And.intro rfl ?_ | refine And.intro (Or.inl rfl) ?_ | refine And.intro (Or.inr rfl) ?_ | refine And.intro (Nat.le_of_ble_eq_true rfl) ?_ | refine And.intro (And.intro rfl rfl) ?_ | exact rfl
        · try simp only [if_neg h6]
          repeat' first | refine And.intro rfl ?_ | refine And.intro (Or.inl rfl) ?_ | refine And.intro (Or.inr rfl) ?_ | refine And.intro (Nat.le_of_ble_eq_true rfl) ?_ | refine And.intro (And.intro rfl rfl) ?_ | exact rfl
          refine And.intro (fun (h7 : 7 < (I 36 1)) => ?_) (fun (h7 : ¬ (7 < (I 36 1))) => ?_)
          · try simp only [if_pos h7]
            refine zs_42_66 ?_
            repeat' first | refine And.intro rfl ?_ | refine And.intro (Or.inl rfl) ?_ | refine And.intro (Or.inr rfl) ?_ | refine And.intro (Nat.le_of_ble_eq_true rfl) ?_ | refine And.intro (And.intro rfl rfl) ?_ | exact rfl
          · try simp only [if_neg h7]
            repeat' first | refine And.intro rfl ?_ | refine And.intro (Or.inl rfl) ?_ | refine And.intro (Or.inr rfl) ?_ | refine And.intro (Nat.le_of_ble_eq_true rfl) ?_ | refine And.intro (And.intro rfl rfl) ?_ | exact rfl
      · try simp only [if_neg h5]
        repeat' first | refine And.intro rfl ?_ | refine And.intro (Or.inl rfl) ?_ | refine And.intro (Or.inr rfl) ?_ | refine And.intro (Nat.le_of_ble_eq_true rfl) ?_ | refine And.intro (And.intro rfl rfl) ?_ | exact rfl
  · try simp only [if_neg h1]
    repeat' first | refine And.intro rfl ?_ | refine And.intro (Or.inl rfl) ?_ | refine And.intro (Or.inr rfl) ?_ | refine And.intro (Nat.le_of_ble_eq_true rfl) ?_ | refine And.intro (And.intro rfl rfl) ?_ | exact rfl
    refine And.intro (fun (h8 : 3 < (I 36 1)) => ?_) (fun (h8 : ¬ (3 < (I 36 1))) => ?_)
    · try simp only [if_pos h8]
      refine zs_42_21 ?_
      repeat' first | refine And.intro rfl ?_ | refine And.intro (Or.inl rfl) ?_ | refine And.intro (Or.inr rfl) ?_ | refine And.intro (Nat.le_of_ble_eq_true rfl) ?_ | refine And.intro (And.intro rfl rfl) ?_ | exact rfl
      refine And.intro (fun (h9 : ¬ x = 60) => ?_) (fun (h9 : ¬ (¬ x = 60)) => ?_)
      · try simp only [if_pos h9]
        refine zs_42_43 ?_
        repeat' first | refine And.intro rfl ?_ | refine And.intro (Or.inl rfl) ?_ | refine And.intro (Or.inr rfl) ?_ | refine And.intro (Nat.le_of_ble_eq_true rfl) ?_ | refine And.intro (And.intro rfl rfl) ?_ | exact rfl
        refine And.intro (fun (h10 : ¬ x = 61) => ?_) (fun (h10 : ¬ (¬ x = 61)) => ?_)
        · try simp only [if_pos h10]
          refine zs_42_66 ?_
          repeat' first | refine And.intro rfl ?_ | refine And.intro (Or.inl rfl) ?_ | refine And.intro (Or.inr rfl) ?_ | refine And.intro (Nat.le_of_ble_eq_true rfl) ?_ | refine And.intro (And.intro rfl rfl) ?_ | exact rfl
        · try simp only [if_neg h10]
          repeat' first | refine And.intro rfl ?_ | refine And.intro (Or.inl rfl) ?_ | refine And.intro (Or.inr rfl) ?_ | refine And.intro (Nat.le_of_ble_eq_true rfl) ?_ | refine And.intro (And.intro rfl rfl) ?_ | exact rfl
          refine And.intro (fun (h11 : 7 < (I 36 1)) => ?_) (fun (h11 : ¬ (7 < (I 36 1))) => ?_)
          · try simp only [if_pos h11]
            refine zs_42_66 ?_
            repeat' first | refine And.intro rfl ?_ | refine And.intro (Or.inl rfl) ?_ | refine And.intro (Or.inr rfl) ?_ | refine And.intro (Nat.le_of_ble_eq_true rfl) ?_ | refine And.intro (And.intro rfl rfl) ?_ | exact rfl
          · try simp only [if_neg h11]
            repeat' first | refine And.intro rfl ?_ | refine And.intro (Or.inl rfl) ?_ | refine And.intro (Or.inr rfl) ?_ | refine And.intro (Nat.le_of_ble_eq_true rfl) ?_ | refine And.intro (And.intro rfl rfl) ?_ | exact rfl
      · try simp only [if_neg h9]
        repeat' first | refine And.intro rfl ?_ | refine And.intro (Or.inl rfl) ?_ | refine And.intro (Or.inr rfl) ?_ | refine And.intro (Nat.le_of_ble_eq_true rfl) ?_ | refine And.intro (And.intro rfl rfl) ?_ | exact rfl
        refine And.intro (fun (h12 : 5 < (I 36 1)) => ?_) (fun (h12 : ¬ (5 < (I 36 1))) => ?_)
        · try simp only [if_pos h12]
          refine zs_42_43 ?_
          repeat' first | refine And.intro rfl ?_ | refine And.intro (Or.inl rfl) ?_ | refine And.intro (Or.inr rfl) ?_ | refine And.intro (Nat.le_of_ble_eq_true rfl) ?_ | refine And.intro (And.intro rfl rfl) ?_ | exact rfl
          refine And.intro (fun (h13 : ¬ x = 61) => ?_) (fun (h13 : ¬ (¬ x = 61)) => ?_)
          · try simp only [if_pos h13]
            refine zs_42_66 ?_
            repeat' first | refine And.intro rfl ?_ | refine And.intro (Or.inl rfl) ?_ | refine And.intro (Or.inr rfl) ?_ | refine And.intro (Nat.le_of_ble_eq_true rfl) ?_ | refine And.intro (And.intro rfl rfl) ?_ | exact rfl
          · try simp only [if_neg h13]
            repeat' first | refine And.intro rfl ?_ | refine And.intro (Or.inl rfl) ?_ | refine And.intro (Or.inr rfl) ?_ | refine And.intro (Nat.le_of_ble_eq_true rfl) ?_ | refine And.intro (And.intro rfl rfl) ?_ | exact rfl
            refine And.intro (fun (h14 : 7 < (I 36 1)) => ?_) (fun (h14 : ¬ (7 < (I 36 1))) => ?_)
            · try simp only [if_pos h14]
              refine zs_42_66 ?_
              repeat' first | refine And.intro rfl ?_ | refine And.intro (Or.inl rfl) ?_ | refine And.intro (Or.inr rfl) ?_ | refine And.intro (Nat.le_of_ble_eq_true rfl) ?_ | refine And.intro (And.intro rfl rfl) ?_ | exact rfl
            · try simp only [if_neg h14]
              repeat' first | refine And.intro rfl ?_ | refine And.intro (Or.inl rfl) ?_ | refine And.intro (Or.inr rfl) ?_ | refine And.intro (Nat.le_of_ble_eq_true rfl) ?_ | refine And.intro (And.intro rfl rfl) ?_ | exact rfl
        · try simp only [if_neg h12]
          repeat' first | refine And.intro rfl ?_ | refine And.intro (Or.inl rfl) ?_ | refine And.intro (Or.inr rfl) ?_ | refine And.intro (Nat.le_of_ble_eq_true rfl) ?_ | refine And.intro (And.intro rfl rfl) ?_ | exact rfl
    · try simp only [if_neg h8]
      repeat' first | refine And.intro rfl ?_ | refine And.intro (Or.inl rfl) ?_ | refine And.intro (Or.inr rfl) ?_ | refine And.intro (Nat.le_of_ble_eq_true rfl) ?_ | refine And.intro (And.intro rfl rfl) ?_ | exact rfl
theorem zb_X3_takesMark (I : Nat → Nat → Int32) (x : Int32) : zv_X3_takesMark I x = 0 ∨ zv_X3_takesMark I x = 1 := by
  unfold zv_X3_takesMark
  repeat' first | split | exact Or.inl rfl | exact Or.inr rfl
def zv_X3_takesCheer (I : Nat → Nat → Int32) (x : Int32) : Int32 := if ¬ (zv_X3_takesNumber I x 48 57 6 48) = 0 then 1 else 0
def zw_X3_takesCheer (I : Nat → Nat → Int32) (x : Int32) : Nat → Nat → Int32 := if ¬ (zv_X3_takesNumber I x 48 57 6 48) = 0 then (zz_u (zz_u (zw_X3_takesNumber I x 48 57 6 48) 36 2 (((zw_X3_takesNumber I x 48 57 6 48) 36 2) + 1)) 36 3 (((zw_X3_takesNumber I x 48 57 6 48) 36 3) + 1)) else (zw_X3_takesNumber I x 48 57 6 48)
theorem zr_X3_takesCheer (F : zz_F) (I : Nat → Nat → Int32) (J : Nat → Nat → Int64) (d : Nat) (x : Int32) : zz_run (d+2) 43 0 [some (.ref 36), some (.int (x))] [] (zz_S F I J) (some (.int (zv_X3_takesCheer I x))) (zz_S F (zw_X3_takesCheer I x) (J)) := by
  unfold zv_X3_takesCheer zw_X3_takesCheer
  refine zs_43_0 ?_
  repeat' first | refine And.intro rfl ?_ | refine And.intro (Or.inl rfl) ?_ | refine And.intro (Or.inr rfl) ?_ | refine And.intro (Nat.le_of_ble_eq_true rfl) ?_ | refine And.intro (And.intro rfl rfl) ?_ | exact rfl
  refine Exists.intro _ (Exists.intro _ (And.intro (zr_X3_takesNumber F I J d x 48 57 6 48) ?_))
  repeat' first | refine And.intro rfl ?_ | refine And.intro (Or.inl rfl) ?_ | refine And.intro (Or.inr rfl) ?_ | refine And.intro (Nat.le_of_ble_eq_true rfl) ?_ | refine And.intro (And.intro rfl rfl) ?_ | exact rfl
  refine And.intro (fun (h1 : ¬ (zv_X3_takesNumber I x 48 57 6 48) = 0) => ?_) (fun (h1 : ¬ (¬ (zv_X3_takesNumber I x 48 57 6 48) = 0)) => ?_)
  · try simp only [if_pos h1]
    refine zs_43_18 ?_
    repeat' first | refine And.intro rfl ?_ | refine And.intro (Or.inl rfl) ?_ | refine And.intro (Or.inr rfl) ?_ | refine And.intro (Nat.le_of_ble_eq_true rfl) ?_ | refine And.intro (And.intro rfl rfl) ?_ | exact rfl
  · try simp only [if_neg h1]
    repeat' first | refine And.intro rfl ?_ | refine And.intro (Or.inl rfl) ?_ | refine And.intro (Or.inr rfl) ?_ | refine And.intro (Nat.le_of_ble_eq_true rfl) ?_ | refine And.intro (And.intro rfl rfl) ?_ | exact rfl
theorem zb_X3_takesCheer (I : Nat → Nat → Int32) (x : Int32) : zv_X3_takesCheer I x = 0 ∨ zv_X3_takesCheer I x = 1 := by
  unfold zv_X3_takesCheer
  repeat' first | split | exact Or.inl rfl | exact Or.inr rfl
def zv_X3_takesNextLine (I : Nat → Nat → Int32) (x : Int32) : Int32 := if x = 59 then 1 else 0
def zw_X3_takesNextLine (I : Nat → Nat → Int32) (x : Int32) : Nat → Nat → Int32 := if x = 59 then (zz_u I 36 1 0) else I
theorem zr_X3_takesNextLine (F : zz_F) (I : Nat → Nat → Int32) (J : Nat → Nat → Int64) (d : Nat) (x : Int32) : zz_run (d) 44 0 [some (.ref 36), some (.int (x))] [] (zz_S F I J) (some (.int (zv_X3_takesNextLine I x))) (zz_S F (zw_X3_takesNextLine I x) (J)) := by
  unfold zv_X3_takesNextLine zw_X3_takesNextLine
  refine zs_44_0 ?_
  repeat' first | refine And.intro rfl ?_ | refine And.intro (Or.inl rfl) ?_ | refine And.intro (Or.inr rfl) ?_ | refine And.intro (Nat.le_of_ble_eq_true rfl) ?_ | refine And.intro (And.intro rfl rfl) ?_ | exact rfl
  refine And.intro (fun (h1 : x = 59) => ?_) (fun (h1 : ¬ (x = 59)) => ?_)
  · try simp only [if_pos h1]
    refine zs_44_8 ?_
    repeat' first | refine And.intro rfl ?_ | refine And.intro (Or.inl rfl) ?_ | refine And.intro (Or.inr rfl) ?_ | refine And.intro (Nat.le_of_ble_eq_true rfl) ?_ | refine And.intro (And.intro rfl rfl) ?_ | exact rfl
  · try simp only [if_neg h1]
    repeat' first | refine And.intro rfl ?_ | refine And.intro (Or.inl rfl) ?_ | refine And.intro (Or.inr rfl) ?_ | refine And.intro (Nat.le_of_ble_eq_true rfl) ?_ | refine And.intro (And.intro rfl rfl) ?_ | exact rfl
theorem zb_X3_takesNextLine (I : Nat → Nat → Int32) (x : Int32) : zv_X3_takesNextLine I x = 0 ∨ zv_X3_takesNextLine I x = 1 := by
  unfold zv_X3_takesNextLine
  repeat' first | split | exact Or.inl rfl | exact Or.inr rfl
def zv_X4_sizeOf (I : Nat → Nat → Int32) (x : Int32) : Int32 := if ¬ x = 0 then (I 41 7) else (I 41 6)
theorem zr_X4_sizeOf (F : zz_F) (I : Nat → Nat → Int32) (J : Nat → Nat → Int64) (d : Nat) (x : Int32) : zz_run (d) 49 0 [some (.ref 41), some (.int (x))] [] (zz_S F I J) (some (.int (zv_X4_sizeOf I x))) (zz_S F (I) (J)) := by
  unfold zv_X4_sizeOf
  refine zs_49_0 ?_
  repeat' first | refine And.intro rfl ?_ | refine And.intro (Or.inl rfl) ?_ | refine And.intro (Or.inr rfl) ?_ | refine And.intro (Nat.le_of_ble_eq_true rfl) ?_ | refine And.intro (And.intro rfl rfl) ?_ | exact rfl
  refine And.intro (fun (h1 : ¬ x = 0) => ?_) (fun (h1 : ¬ (¬ x = 0)) => ?_)
  · try simp only [if_pos h1]
    refine zs_49_11 ?_
    repeat' first | refine And.intro rfl ?_ | refine And.intro (Or.inl rfl) ?_ | refine And.intro (Or.inr rfl) ?_ | refine And.intro (Nat.le_of_ble_eq_true rfl) ?_ | refine And.intro (And.intro rfl rfl) ?_ | exact rfl
    refine zs_49_15 ?_
    repeat' first | refine And.intro rfl ?_ | refine And.intro (Or.inl rfl) ?_ | refine And.intro (Or.inr rfl) ?_ | refine And.intro (Nat.le_of_ble_eq_true rfl) ?_ | refine And.intro (And.intro rfl rfl) ?_ | exact rfl
  · try simp only [if_neg h1]
    repeat' first | refine And.intro rfl ?_ | refine And.intro (Or.inl rfl) ?_ | refine And.intro (Or.inr rfl) ?_ | refine And.intro (Nat.le_of_ble_eq_true rfl) ?_ | refine And.intro (And.intro rfl rfl) ?_ | exact rfl
    refine zs_49_15 ?_
    repeat' first | refine And.intro rfl ?_ | refine And.intro (Or.inl rfl) ?_ | refine And.intro (Or.inr rfl) ?_ | refine And.intro (Nat.le_of_ble_eq_true rfl) ?_ | refine And.intro (And.intro rfl rfl) ?_ | exact rfl
def zv_X4_turnAt (I : Nat → Nat → Int32) (x : Int32) : Int32 := if x < 0 then 0 else (if (nI 12) ≤ x then 0 else (I 45 x.toNatClampNeg))
theorem zr_X4_turnAt (F : zz_F) (I : Nat → Nat → Int32) (J : Nat → Nat → Int64) (d : Nat) (x : Int32) : zz_run (d) 50 0 [some (.ref 41), some (.int (x))] [] (zz_S F I J) (some (.int (zv_X4_turnAt I x))) (zz_S F (I) (J)) := by
  unfold zv_X4_turnAt
  refine zs_50_0 ?_
  repeat' first | refine And.intro rfl ?_ | refine And.intro (Or.inl rfl) ?_ | refine And.intro (Or.inr rfl) ?_ | refine And.intro (Nat.le_of_ble_eq_true rfl) ?_ | refine And.intro (And.intro rfl rfl) ?_ | exact rfl
  refine And.intro (fun (h1 : x < 0) => ?_) (fun (h1 : ¬ (x < 0)) => ?_)
  · try simp only [if_pos h1]
    refine zs_50_22 ?_
    repeat' first | refine And.intro rfl ?_ | refine And.intro (Or.inl rfl) ?_ | refine And.intro (Or.inr rfl) ?_ | refine And.intro (Nat.le_of_ble_eq_true rfl) ?_ | refine And.intro (And.intro rfl rfl) ?_ | exact rfl
    refine zs_50_23 ?_
    repeat' first | refine And.intro rfl ?_ | refine And.intro (Or.inl rfl) ?_ | refine And.intro (Or.inr rfl) ?_ | refine And.intro (Nat.le_of_ble_eq_true rfl) ?_ | refine And.intro (And.intro rfl rfl) ?_ | exact rfl
  · try simp only [if_neg h1]
    repeat' first | refine And.intro rfl ?_ | refine And.intro (Or.inl rfl) ?_ | refine And.intro (Or.inr rfl) ?_ | refine And.intro (Nat.le_of_ble_eq_true rfl) ?_ | refine And.intro (And.intro rfl rfl) ?_ | exact rfl
    refine And.intro (fun (h2 : (nI 12) ≤ x) => ?_) (fun (h2 : ¬ ((nI 12) ≤ x)) => ?_)
    · try simp only [if_pos h2]
      refine zs_50_22 ?_
      repeat' first | refine And.intro rfl ?_ | refine And.intro (Or.inl rfl) ?_ | refine And.intro (Or.inr rfl) ?_ | refine And.intro (Nat.le_of_ble_eq_true rfl) ?_ | refine And.intro (And.intro rfl rfl) ?_ | exact rfl
      refine zs_50_23 ?_
      repeat' first | refine And.intro rfl ?_ | refine And.intro (Or.inl rfl) ?_ | refine And.intro (Or.inr rfl) ?_ | refine And.intro (Nat.le_of_ble_eq_true rfl) ?_ | refine And.intro (And.intro rfl rfl) ?_ | exact rfl
    · try simp only [if_neg h2]
      repeat' first | refine And.intro rfl ?_ | refine And.intro (Or.inl rfl) ?_ | refine And.intro (Or.inr rfl) ?_ | refine And.intro (Nat.le_of_ble_eq_true rfl) ?_ | refine And.intro (And.intro rfl rfl) ?_ | exact rfl
      refine And.intro (zz_vin (n := 12) h1 h2 (Nat.le_of_ble_eq_true rfl)) ?_
      repeat' first | refine And.intro rfl ?_ | refine And.intro (Or.inl rfl) ?_ | refine And.intro (Or.inr rfl) ?_ | refine And.intro (Nat.le_of_ble_eq_true rfl) ?_ | refine And.intro (And.intro rfl rfl) ?_ | exact rfl
      refine zs_50_23 ?_
      repeat' first | refine And.intro rfl ?_ | refine And.intro (Or.inl rfl) ?_ | refine And.intro (Or.inr rfl) ?_ | refine And.intro (Nat.le_of_ble_eq_true rfl) ?_ | refine And.intro (And.intro rfl rfl) ?_ | exact rfl
def zv_X4_valueAt (I : Nat → Nat → Int32) (x : Int32) (y : Int32) (z : Int32) : Int32 := if ((((x * 13) + y) * 2) + z) < 0 then 1000000 else (if (nI 338) ≤ ((((x * 13) + y) * 2) + z) then 1000000 else (I 44 (((((x * 13) + y) * 2) + z).toNatClampNeg)))
theorem zr_X4_valueAt (F : zz_F) (I : Nat → Nat → Int32) (J : Nat → Nat → Int64) (d : Nat) (x : Int32) (y : Int32) (z : Int32) : zz_run (d) 51 0 [some (.ref 41), some (.int (x)), some (.int (y)), some (.int (z)), none] [] (zz_S F I J) (some (.int (zv_X4_valueAt I x y z))) (zz_S F (I) (J)) := by
  unfold zv_X4_valueAt
  refine zs_51_0 ?_
  repeat' first | refine And.intro rfl ?_ | refine And.intro (Or.inl rfl) ?_ | refine And.intro (Or.inr rfl) ?_ | refine And.intro (Nat.le_of_ble_eq_true rfl) ?_ | refine And.intro (And.intro rfl rfl) ?_ | exact rfl
  refine And.intro (fun (h1 : ((((x * 13) + y) * 2) + z) < 0) => ?_) (fun (h1 : ¬ (((((x * 13) + y) * 2) + z) < 0)) => ?_)
  · try simp only [if_pos h1]
    refine zs_51_37 ?_
    repeat' first | refine And.intro rfl ?_ | refine And.intro (Or.inl rfl) ?_ | refine And.intro (Or.inr rfl) ?_ | refine And.intro (Nat.le_of_ble_eq_true rfl) ?_ | refine And.intro (And.intro rfl rfl) ?_ | exact rfl
    refine zs_51_39 ?_
    repeat' first | refine And.intro rfl ?_ | refine And.intro (Or.inl rfl) ?_ | refine And.intro (Or.inr rfl) ?_ | refine And.intro (Nat.le_of_ble_eq_true rfl) ?_ | refine And.intro (And.intro rfl rfl) ?_ | exact rfl
  · try simp only [if_neg h1]
    repeat' first | refine And.intro rfl ?_ | refine And.intro (Or.inl rfl) ?_ | refine And.intro (Or.inr rfl) ?_ | refine And.intro (Nat.le_of_ble_eq_true rfl) ?_ | refine And.intro (And.intro rfl rfl) ?_ | exact rfl
    refine And.intro (fun (h2 : (nI 338) ≤ ((((x * 13) + y) * 2) + z)) => ?_) (fun (h2 : ¬ ((nI 338) ≤ ((((x * 13) + y) * 2) + z))) => ?_)
    · try simp only [if_pos h2]
      refine zs_51_37 ?_
      repeat' first | refine And.intro rfl ?_ | refine And.intro (Or.inl rfl) ?_ | refine And.intro (Or.inr rfl) ?_ | refine And.intro (Nat.le_of_ble_eq_true rfl) ?_ | refine And.intro (And.intro rfl rfl) ?_ | exact rfl
      refine zs_51_39 ?_
      repeat' first | refine And.intro rfl ?_ | refine And.intro (Or.inl rfl) ?_ | refine And.intro (Or.inr rfl) ?_ | refine And.intro (Nat.le_of_ble_eq_true rfl) ?_ | refine And.intro (And.intro rfl rfl) ?_ | exact rfl
    · try simp only [if_neg h2]
      repeat' first | refine And.intro rfl ?_ | refine And.intro (Or.inl rfl) ?_ | refine And.intro (Or.inr rfl) ?_ | refine And.intro (Nat.le_of_ble_eq_true rfl) ?_ | refine And.intro (And.intro rfl rfl) ?_ | exact rfl
      refine And.intro (zz_vin (n := 338) h1 h2 (Nat.le_of_ble_eq_true rfl)) ?_
      repeat' first | refine And.intro rfl ?_ | refine And.intro (Or.inl rfl) ?_ | refine And.intro (Or.inr rfl) ?_ | refine And.intro (Nat.le_of_ble_eq_true rfl) ?_ | refine And.intro (And.intro rfl rfl) ?_ | exact rfl
      refine zs_51_39 ?_
      repeat' first | refine And.intro rfl ?_ | refine And.intro (Or.inl rfl) ?_ | refine And.intro (Or.inr rfl) ?_ | refine And.intro (Nat.le_of_ble_eq_true rfl) ?_ | refine And.intro (And.intro rfl rfl) ?_ | exact rfl
def zw_X4_put (I : Nat → Nat → Int32) (x : Int32) (y : Int32) (z : Int32) (w : Int32) : Nat → Nat → Int32 := if ((((x * 13) + y) * 2) + z) < 0 then I else (if (nI 338) ≤ ((((x * 13) + y) * 2) + z) then I else (zz_u I 44 (((((x * 13) + y) * 2) + z).toNatClampNeg) w))
theorem zr_X4_put (F : zz_F) (I : Nat → Nat → Int32) (J : Nat → Nat → Int64) (d : Nat) (x : Int32) (y : Int32) (z : Int32) (w : Int32) : zz_run (d) 52 0 [some (.ref 41), some (.int (x)), some (.int (y)), some (.int (z)), some (.int (w)), none] [] (zz_S F I J) none (zz_S F (zw_X4_put I x y z w) (J)) := by
  unfold zw_X4_put
  refine zs_52_0 ?_
  repeat' first | refine And.intro rfl ?_ | refine And.intro (Or.inl rfl) ?_ | refine And.intro (Or.inr rfl) ?_ | refine And.intro (Nat.le_of_ble_eq_true rfl) ?_ | refine And.intro (And.intro rfl rfl) ?_ | exact rfl
  refine And.intro (fun (h1 : ((((x * 13) + y) * 2) + z) < 0) => ?_) (fun (h1 : ¬ (((((x * 13) + y) * 2) + z) < 0)) => ?_)
  · try simp only [if_pos h1]
    refine zs_52_36 ?_
    repeat' first | refine And.intro rfl ?_ | refine And.intro (Or.inl rfl) ?_ | refine And.intro (Or.inr rfl) ?_ | refine And.intro (Nat.le_of_ble_eq_true rfl) ?_ | refine And.intro (And.intro rfl rfl) ?_ | exact rfl
  · try simp only [if_neg h1]
    repeat' first | refine And.intro rfl ?_ | refine And.intro (Or.inl rfl) ?_ | refine And.intro (Or.inr rfl) ?_ | refine And.intro (Nat.le_of_ble_eq_true rfl) ?_ | refine And.intro (And.intro rfl rfl) ?_ | exact rfl
    refine And.intro (fun (h2 : (nI 338) ≤ ((((x * 13) + y) * 2) + z)) => ?_) (fun (h2 : ¬ ((nI 338) ≤ ((((x * 13) + y) * 2) + z))) => ?_)
    · try simp only [if_pos h2]
      refine zs_52_36 ?_
      repeat' first | refine And.intro rfl ?_ | refine And.intro (Or.inl rfl) ?_ | refine And.intro (Or.inr rfl) ?_ | refine And.intro (Nat.le_of_ble_eq_true rfl) ?_ | refine And.intro (And.intro rfl rfl) ?_ | exact rfl
    · try simp only [if_neg h2]
      repeat' first | refine And.intro rfl ?_ | refine And.intro (Or.inl rfl) ?_ | refine And.intro (Or.inr rfl) ?_ | refine And.intro (Nat.le_of_ble_eq_true rfl) ?_ | refine And.intro (And.intro rfl rfl) ?_ | exact rfl
      refine And.intro (zz_vin (n := 338) h1 h2 (Nat.le_of_ble_eq_true rfl)) ?_
      repeat' first | refine And.intro rfl ?_ | refine And.intro (Or.inl rfl) ?_ | refine And.intro (Or.inr rfl) ?_ | refine And.intro (Nat.le_of_ble_eq_true rfl) ?_ | refine And.intro (And.intro rfl rfl) ?_ | exact rfl
      refine zs_52_36 ?_
      repeat' first | refine And.intro rfl ?_ | refine And.intro (Or.inl rfl) ?_ | refine And.intro (Or.inr rfl) ?_ | refine And.intro (Nat.le_of_ble_eq_true rfl) ?_ | refine And.intro (And.intro rfl rfl) ?_ | exact rfl
def zv_X4_stepBy (I : Nat → Nat → Int32) (x : Int32) (y : Int32) (z : Int32) (w : Int32) : Int32 := if ¬ z = 0 then (if ¬ w = 0 then (if (13 + y) < 0 then 1000000 else (if (nI 26) ≤ (13 + y) then 1000000 else (if ((13 + y) + 1) < 0 then 1000000 else (if ((13 + y) + 1) < (nI 26) then (if (((I 43 ((13 + y).toNatClampNeg)) * 12) + (I 43 (((13 + y) + 1).toNatClampNeg))) < 0 then 1000000 else (if (nI 156) ≤ (((I 43 ((13 + y).toNatClampNeg)) * 12) + (I 43 (((13 + y) + 1).toNatClampNeg))) then 1000000 else (I 42 ((((I 43 ((13 + y).toNatClampNeg)) * 12) + (I 43 (((13 + y) + 1).toNatClampNeg))).toNatClampNeg)))) else 1000000)))) else (if (13 + y) < 0 then 1000000 else (if (nI 26) ≤ (13 + y) then 1000000 else (if (x + 1) < 0 then 1000000 else (if (x + 1) < (nI 26) then (if (((I 43 ((13 + y).toNatClampNeg)) * 12) + (I 43 ((x + 1).toNatClampNeg))) < 0 then 1000000 else (if (nI 156) ≤ (((I 43 ((13 + y).toNatClampNeg)) * 12) + (I 43 ((x + 1).toNatClampNeg))) then 1000000 else (I 42 ((((I 43 ((13 + y).toNatClampNeg)) * 12) + (I 43 ((x + 1).toNatClampNeg))).toNatClampNeg)))) else 1000000))))) else (if ¬ w = 0 then (if x < 0 then 1000000 else (if (nI 26) ≤ x then 1000000 else (if ((13 + y) + 1) < 0 then 1000000 else (if ((13 + y) + 1) < (nI 26) then (if (((I 43 x.toNatClampNeg) * 12) + (I 43 (((13 + y) + 1).toNatClampNeg))) < 0 then 1000000 else (if (nI 156) ≤ (((I 43 x.toNatClampNeg) * 12) + (I 43 (((13 + y) + 1).toNatClampNeg))) then 1000000 else (I 42 ((((I 43 x.toNatClampNeg) * 12) + (I 43 (((13 + y) + 1).toNatClampNeg))).toNatClampNeg)))) else 1000000)))) else (if x < 0 then 1000000 else (if (nI 26) ≤ x then 1000000 else (if (x + 1) < 0 then 1000000 else (if (x + 1) < (nI 26) then (if (((I 43 x.toNatClampNeg) * 12) + (I 43 ((x + 1).toNatClampNeg))) < 0 then 1000000 else (if (nI 156) ≤ (((I 43 x.toNatClampNeg) * 12) + (I 43 ((x + 1).toNatClampNeg))) then 1000000 else (I 42 ((((I 43 x.toNatClampNeg) * 12) + (I 43 ((x + 1).toNatClampNeg))).toNatClampNeg)))) else 1000000)))))
theorem zr_X4_stepBy (F : zz_F) (I : Nat → Nat → Int32) (J : Nat → Nat → Int64) (d : Nat) (x : Int32) (y : Int32) (z : Int32) (w : Int32) : zz_run (d) 53 0 [some (.ref 41), some (.int (x)), some (.int (y)), some (.int (z)), some (.int (w)), none, none, none] [] (zz_S F I J) (some (.int (zv_X4_stepBy I x y z w))) (zz_S F (I) (J)) := by
  unfold zv_X4_stepBy
  refine zs_53_0 ?_
  repeat' first | refine And.intro rfl ?_ | refine And.intro (Or.inl rfl) ?_ | refine And.intro (Or.inr rfl) ?_ | refine And.intro (Nat.le_of_ble_eq_true rfl) ?_ | refine And.intro (And.intro rfl rfl) ?_ | exact rfl
  refine And.intro (fun (h1 : ¬ z = 0) => ?_) (fun (h1 : ¬ (¬ z = 0)) => ?_)
  · try simp only [if_pos h1]
    refine zs_53_8 ?_
    repeat' first | refine And.intro rfl ?_ | refine And.intro (Or.inl rfl) ?_ | refine And.intro (Or.inr rfl) ?_ | refine And.intro (Nat.le_of_ble_eq_true rfl) ?_ | refine And.intro (And.intro rfl rfl) ?_ | exact rfl
    refine zs_53_12 ?_
    repeat' first | refine And.intro rfl ?_ | refine And.intro (Or.inl rfl) ?_ | refine And.intro (Or.inr rfl) ?_ | refine And.intro (Nat.le_of_ble_eq_true rfl) ?_ | refine And.intro (And.intro rfl rfl) ?_ | exact rfl
    refine And.intro (fun (h2 : ¬ w = 0) => ?_) (fun (h2 : ¬ (¬ w = 0)) => ?_)
    · try simp only [if_pos h2]
      refine zs_53_25 ?_
      repeat' first | refine And.intro rfl ?_ | refine And.intro (Or.inl rfl) ?_ | refine And.intro (Or.inr rfl) ?_ | refine And.intro (Nat.le_of_ble_eq_true rfl) ?_ | refine And.intro (And.intro rfl rfl) ?_ | exact rfl
      refine zs_53_31 ?_
      repeat' first | refine And.intro rfl ?_ | refine And.intro (Or.inl rfl) ?_ | refine And.intro (Or.inr rfl) ?_ | refine And.intro (Nat.le_of_ble_eq_true rfl) ?_ | refine And.intro (And.intro rfl rfl) ?_ | exact rfl
      refine And.intro (fun (h3 : (13 + y) < 0) => ?_) (fun (h3 : ¬ ((13 + y) < 0)) => ?_)
      · try simp only [if_pos h3]
        refine zs_53_63 ?_
        repeat' first | refine And.intro rfl ?_ | refine And.intro (Or.inl rfl) ?_ | refine And.intro (Or.inr rfl) ?_ | refine And.intro (Nat.le_of_ble_eq_true rfl) ?_ | refine And.intro (And.intro rfl rfl) ?_ | exact rfl
      · try simp only [if_neg h3]
        repeat' first | refine And.intro rfl ?_ | refine And.intro (Or.inl rfl) ?_ | refine And.intro (Or.inr rfl) ?_ | refine And.intro (Nat.le_of_ble_eq_true rfl) ?_ | refine And.intro (And.intro rfl rfl) ?_ | exact rfl
        refine And.intro (fun (h4 : (nI 26) ≤ (13 + y)) => ?_) (fun (h4 : ¬ ((nI 26) ≤ (13 + y))) => ?_)
        · try simp only [if_pos h4]
          refine zs_53_63 ?_
          repeat' first | refine And.intro rfl ?_ | refine And.intro (Or.inl rfl) ?_ | refine And.intro (Or.inr rfl) ?_ | refine And.intro (Nat.le_of_ble_eq_true rfl) ?_ | refine And.intro (And.intro rfl rfl) ?_ | exact rfl
        · try simp only [if_neg h4]
          repeat' first | refine And.intro rfl ?_ | refine And.intro (Or.inl rfl) ?_ | refine And.intro (Or.inr rfl) ?_ | refine And.intro (Nat.le_of_ble_eq_true rfl) ?_ | refine And.intro (And.intro rfl rfl) ?_ | exact rfl
          refine And.intro (fun (h5 : ((13 + y) + 1) < 0) => ?_) (fun (h5 : ¬ (((13 + y) + 1) < 0)) => ?_)
          · try simp only [if_pos h5]
            refine zs_53_63 ?_
            repeat' first | refine And.intro rfl ?_ | refine And.intro (Or.inl rfl) ?_ | refine And.intro (Or.inr rfl) ?_ | refine And.intro (Nat.le_of_ble_eq_true rfl) ?_ | refine And.intro (And.intro rfl rfl) ?_ | exact rfl
          · try simp only [if_neg h5]
            repeat' first | refine And.intro rfl ?_ | refine And.intro (Or.inl rfl) ?_ | refine And.intro (Or.inr rfl) ?_ | refine And.intro (Nat.le_of_ble_eq_true rfl) ?_ | refine And.intro (And.intro rfl rfl) ?_ | exact rfl
            refine And.intro (fun (h6 : ((13 + y) + 1) < (nI 26)) => ?_) (fun (h6 : ¬ (((13 + y) + 1) < (nI 26))) => ?_)
            · try simp only [if_pos h6]
              refine zs_53_66 ?_
              repeat' first | refine And.intro rfl ?_ | refine And.intro (Or.inl rfl) ?_ | refine And.intro (Or.inr rfl) ?_ | refine And.intro (Nat.le_of_ble_eq_true rfl) ?_ | refine And.intro (And.intro rfl rfl) ?_ | exact rfl
              refine And.intro (zz_vin (n := 26) h3 h4 (Nat.le_of_ble_eq_true rfl)) ?_
              repeat' first | refine And.intro rfl ?_ | refine And.intro (Or.inl rfl) ?_ | refine And.intro (Or.inr rfl) ?_ | refine And.intro (Nat.le_of_ble_eq_true rfl) ?_ | refine And.intro (And.intro rfl rfl) ?_ | exact rfl
              refine And.intro (zz_vin (n := 26) h5 (zz_lt_nle h6) (Nat.le_of_ble_eq_true rfl)) ?_
              repeat' first | refine And.intro rfl ?_ | refine And.intro (Or.inl rfl) ?_ | refine And.intro (Or.inr rfl) ?_ | refine And.intro (Nat.le_of_ble_eq_true rfl) ?_ | refine And.intro (And.intro rfl rfl) ?_ | exact rfl
              refine And.intro (fun (h7 : (((I 43 ((13 + y).toNatClampNeg)) * 12) + (I 43 (((13 + y) + 1).toNatClampNeg))) < 0) => ?_) (fun (h7 : ¬ ((((I 43 ((13 + y).toNatClampNeg)) * 12) + (I 43 (((13 + y) + 1).toNatClampNeg))) < 0)) => ?_)
              · try simp only [if_pos h7]
                refine zs_53_111 ?_
                repeat' first | refine And.intro rfl ?_ | refine And.intro (Or.inl rfl) ?_ | refine And.intro (Or.inr rfl) ?_ | refine And.intro (Nat.le_of_ble_eq_true rfl) ?_ | refine And.intro (And.intro rfl rfl) ?_ | exact rfl
                refine zs_53_113 ?_
                repeat' first | refine And.intro rfl ?_ | refine And.intro (Or.inl rfl) ?_ | refine And.intro (Or.inr rfl) ?_ | refine And.intro (Nat.le_of_ble_eq_true rfl) ?_ | refine And.intro (And.intro rfl rfl) ?_ | exact rfl
              · try simp only [if_neg h7]
                repeat' first | refine And.intro rfl ?_ | refine And.intro (Or.inl rfl) ?_ | refine And.intro (Or.inr rfl) ?_ | refine And.intro (Nat.le_of_ble_eq_true rfl) ?_ | refine And.intro (And.intro rfl rfl) ?_ | exact rfl
                refine And.intro (fun (h8 : (nI 156) ≤ (((I 43 ((13 + y).toNatClampNeg)) * 12) + (I 43 (((13 + y) + 1).toNatClampNeg)))) => ?_) (fun (h8 : ¬ ((nI 156) ≤ (((I 43 ((13 + y).toNatClampNeg)) * 12) + (I 43 (((13 + y) + 1).toNatClampNeg))))) => ?_)
                · try simp only [if_pos h8]
                  refine zs_53_111 ?_
                  repeat' first | refine And.intro rfl ?_ | refine And.intro (Or.inl rfl) ?_ | refine And.intro (Or.inr rfl) ?_ | refine And.intro (Nat.le_of_ble_eq_true rfl) ?_ | refine And.intro (And.intro rfl rfl) ?_ | exact rfl
                  refine zs_53_113 ?_
                  repeat' first | refine And.intro rfl ?_ | refine And.intro (Or.inl rfl) ?_ | refine And.intro (Or.inr rfl) ?_ | refine And.intro (Nat.le_of_ble_eq_true rfl) ?_ | refine And.intro (And.intro rfl rfl) ?_ | exact rfl
                · try simp only [if_neg h8]
                  repeat' first | refine And.intro rfl ?_ | refine And.intro (Or.inl rfl) ?_ | refine And.intro (Or.inr rfl) ?_ | refine And.intro (Nat.le_of_ble_eq_true rfl) ?_ | refine And.intro (And.intro rfl rfl) ?_ | exact rfl
                  refine And.intro (zz_vin (n := 156) h7 h8 (Nat.le_of_ble_eq_true rfl)) ?_
                  repeat' first | refine And.intro rfl ?_ | refine And.intro (Or.inl rfl) ?_ | refine And.intro (Or.inr rfl) ?_ | refine And.intro (Nat.le_of_ble_eq_true rfl) ?_ | refine And.intro (And.intro rfl rfl) ?_ | exact rfl
                  refine zs_53_113 ?_
                  repeat' first | refine And.intro rfl ?_ | refine And.intro (Or.inl rfl) ?_ | refine And.intro (Or.inr rfl) ?_ | refine And.intro (Nat.le_of_ble_eq_true rfl) ?_ | refine And.intro (And.intro rfl rfl) ?_ | exact rfl
            · try simp only [if_neg h6]
              repeat' first | refine And.intro rfl ?_ | refine And.intro (Or.inl rfl) ?_ | refine And.intro (Or.inr rfl) ?_ | refine And.intro (Nat.le_of_ble_eq_true rfl) ?_ | refine And.intro (And.intro rfl rfl) ?_ | exact rfl
              refine zs_53_63 ?_
              repeat' first | refine And.intro rfl ?_ | refine And.intro (Or.inl rfl) ?_ | refine And.intro (Or.inr rfl) ?_ | refine And.intro (Nat.le_of_ble_eq_true rfl) ?_ | refine And.intro (And.intro rfl rfl) ?_ | exact rfl
    · try simp only [if_neg h2]
      repeat' first | refine And.intro rfl ?_ | refine And.intro (Or.inl rfl) ?_ | refine And.intro (Or.inr rfl) ?_ | refine And.intro (Nat.le_of_ble_eq_true rfl) ?_ | refine And.intro (And.intro rfl rfl) ?_ | exact rfl
      refine zs_53_31 ?_
      repeat' first | refine And.intro rfl ?_ | refine And.intro (Or.inl rfl) ?_ | refine And.intro (Or.inr rfl) ?_ | refine And.intro (Nat.le_of_ble_eq_true rfl) ?_ | refine And.intro (And.intro rfl rfl) ?_ | exact rfl
      refine And.intro (fun (h9 : (13 + y) < 0) => ?_) (fun (h9 : ¬ ((13 + y) < 0)) => ?_)
      · try simp only [if_pos h9]
        refine zs_53_63 ?_
        repeat' first | refine And.intro rfl ?_ | refine And.intro (Or.inl rfl) ?_ | refine And.intro (Or.inr rfl) ?_ | refine And.intro (Nat.le_of_ble_eq_true rfl) ?_ | refine And.intro (And.intro rfl rfl) ?_ | exact rfl
      · try simp only [if_neg h9]
        repeat' first | refine And.intro rfl ?_ | refine And.intro (Or.inl rfl) ?_ | refine And.intro (Or.inr rfl) ?_ | refine And.intro (Nat.le_of_ble_eq_true rfl) ?_ | refine And.intro (And.intro rfl rfl) ?_ | exact rfl
        refine And.intro (fun (h10 : (nI 26) ≤ (13 + y)) => ?_) (fun (h10 : ¬ ((nI 26) ≤ (13 + y))) => ?_)
        · try simp only [if_pos h10]
          refine zs_53_63 ?_
          repeat' first | refine And.intro rfl ?_ | refine And.intro (Or.inl rfl) ?_ | refine And.intro (Or.inr rfl) ?_ | refine And.intro (Nat.le_of_ble_eq_true rfl) ?_ | refine And.intro (And.intro rfl rfl) ?_ | exact rfl
        · try simp only [if_neg h10]
          repeat' first | refine And.intro rfl ?_ | refine And.intro (Or.inl rfl) ?_ | refine And.intro (Or.inr rfl) ?_ | refine And.intro (Nat.le_of_ble_eq_true rfl) ?_ | refine And.intro (And.intro rfl rfl) ?_ | exact rfl
          refine And.intro (fun (h11 : (x + 1) < 0) => ?_) (fun (h11 : ¬ ((x + 1) < 0)) => ?_)
          · try simp only [if_pos h11]
            refine zs_53_63 ?_
            repeat' first | refine And.intro rfl ?_ | refine And.intro (Or.inl rfl) ?_ | refine And.intro (Or.inr rfl) ?_ | refine And.intro (Nat.le_of_ble_eq_true rfl) ?_ | refine And.intro (And.intro rfl rfl) ?_ | exact rfl
          · try simp only [if_neg h11]
            repeat' first | refine And.intro rfl ?_ | refine And.intro (Or.inl rfl) ?_ | refine And.intro (Or.inr rfl) ?_ | refine And.intro (Nat.le_of_ble_eq_true rfl) ?_ | refine And.intro (And.intro rfl rfl) ?_ | exact rfl
            refine And.intro (fun (h12 : (x + 1) < (nI 26)) => ?_) (fun (h12 : ¬ ((x + 1) < (nI 26))) => ?_)
            · try simp only [if_pos h12]
              refine zs_53_66 ?_
              repeat' first | refine And.intro rfl ?_ | refine And.intro (Or.inl rfl) ?_ | refine And.intro (Or.inr rfl) ?_ | refine And.intro (Nat.le_of_ble_eq_true rfl) ?_ | refine And.intro (And.intro rfl rfl) ?_ | exact rfl
              refine And.intro (zz_vin (n := 26) h9 h10 (Nat.le_of_ble_eq_true rfl)) ?_
              repeat' first | refine And.intro rfl ?_ | refine And.intro (Or.inl rfl) ?_ | refine And.intro (Or.inr rfl) ?_ | refine And.intro (Nat.le_of_ble_eq_true rfl) ?_ | refine And.intro (And.intro rfl rfl) ?_ | exact rfl
              refine And.intro (zz_vin (n := 26) h11 (zz_lt_nle h12) (Nat.le_of_ble_eq_true rfl)) ?_
              repeat' first | refine And.intro rfl ?_ | refine And.intro (Or.inl rfl) ?_ | refine And.intro (Or.inr rfl) ?_ | refine And.intro (Nat.le_of_ble_eq_true rfl) ?_ | refine And.intro (And.intro rfl rfl) ?_ | exact rfl
              refine And.intro (fun (h13 : (((I 43 ((13 + y).toNatClampNeg)) * 12) + (I 43 ((x + 1).toNatClampNeg))) < 0) => ?_) (fun (h13 : ¬ ((((I 43 ((13 + y).toNatClampNeg)) * 12) + (I 43 ((x + 1).toNatClampNeg))) < 0)) => ?_)
              · try simp only [if_pos h13]
                refine zs_53_111 ?_
                repeat' first | refine And.intro rfl ?_ | refine And.intro (Or.inl rfl) ?_ | refine And.intro (Or.inr rfl) ?_ | refine And.intro (Nat.le_of_ble_eq_true rfl) ?_ | refine And.intro (And.intro rfl rfl) ?_ | exact rfl
                refine zs_53_113 ?_
                repeat' first | refine And.intro rfl ?_ | refine And.intro (Or.inl rfl) ?_ | refine And.intro (Or.inr rfl) ?_ | refine And.intro (Nat.le_of_ble_eq_true rfl) ?_ | refine And.intro (And.intro rfl rfl) ?_ | exact rfl
              · try simp only [if_neg h13]
                repeat' first | refine And.intro rfl ?_ | refine And.intro (Or.inl rfl) ?_ | refine And.intro (Or.inr rfl) ?_ | refine And.intro (Nat.le_of_ble_eq_true rfl) ?_ | refine And.intro (And.intro rfl rfl) ?_ | exact rfl
                refine And.intro (fun (h14 : (nI 156) ≤ (((I 43 ((13 + y).toNatClampNeg)) * 12) + (I 43 ((x + 1).toNatClampNeg)))) => ?_) (fun (h14 : ¬ ((nI 156) ≤ (((I 43 ((13 + y).toNatClampNeg)) * 12) + (I 43 ((x + 1).toNatClampNeg))))) => ?_)
                · try simp only [if_pos h14]
                  refine zs_53_111 ?_
                  repeat' first | refine And.intro rfl ?_ | refine And.intro (Or.inl rfl) ?_ | refine And.intro (Or.inr rfl) ?_ | refine And.intro (Nat.le_of_ble_eq_true rfl) ?_ | refine And.intro (And.intro rfl rfl) ?_ | exact rfl
                  refine zs_53_113 ?_
                  repeat' first | refine And.intro rfl ?_ | refine And.intro (Or.inl rfl) ?_ | refine And.intro (Or.inr rfl) ?_ | refine And.intro (Nat.le_of_ble_eq_true rfl) ?_ | refine And.intro (And.intro rfl rfl) ?_ | exact rfl
                · try simp only [if_neg h14]
                  repeat' first | refine And.intro rfl ?_ | refine And.intro (Or.inl rfl) ?_ | refine And.intro (Or.inr rfl) ?_ | refine And.intro (Nat.le_of_ble_eq_true rfl) ?_ | refine And.intro (And.intro rfl rfl) ?_ | exact rfl
                  refine And.intro (zz_vin (n := 156) h13 h14 (Nat.le_of_ble_eq_true rfl)) ?_
                  repeat' first | refine And.intro rfl ?_ | refine And.intro (Or.inl rfl) ?_ | refine And.intro (Or.inr rfl) ?_ | refine And.intro (Nat.le_of_ble_eq_true rfl) ?_ | refine And.intro (And.intro rfl rfl) ?_ | exact rfl
                  refine zs_53_113 ?_
                  repeat' first | refine And.intro rfl ?_ | refine And.intro (Or.inl rfl) ?_ | refine And.intro (Or.inr rfl) ?_ | refine And.intro (Nat.le_of_ble_eq_true rfl) ?_ | refine And.intro (And.intro rfl rfl) ?_ | exact rfl
            · try simp only [if_neg h12]
              repeat' first | refine And.intro rfl ?_ | refine And.intro (Or.inl rfl) ?_ | refine And.intro (Or.inr rfl) ?_ | refine And.intro (Nat.le_of_ble_eq_true rfl) ?_ | refine And.intro (And.intro rfl rfl) ?_ | exact rfl
              refine zs_53_63 ?_
              repeat' first | refine And.intro rfl ?_ | refine And.intro (Or.inl rfl) ?_ | refine And.intro (Or.inr rfl) ?_ | refine And.intro (Nat.le_of_ble_eq_true rfl) ?_ | refine And.intro (And.intro rfl rfl) ?_ | exact rfl
  · try simp only [if_neg h1]
    repeat' first | refine And.intro rfl ?_ | refine And.intro (Or.inl rfl) ?_ | refine And.intro (Or.inr rfl) ?_ | refine And.intro (Nat.le_of_ble_eq_true rfl) ?_ | refine And.intro (And.intro rfl rfl) ?_ | exact rfl
    refine zs_53_12 ?_
    repeat' first | refine And.intro rfl ?_ | refine And.intro (Or.inl rfl) ?_ | refine And.intro (Or.inr rfl) ?_ | refine And.intro (Nat.le_of_ble_eq_true rfl) ?_ | refine And.intro (And.intro rfl rfl) ?_ | exact rfl
    refine And.intro (fun (h15 : ¬ w = 0) => ?_) (fun (h15 : ¬ (¬ w = 0)) => ?_)
    · try simp only [if_pos h15]
      refine zs_53_25 ?_
      repeat' first | refine And.intro rfl ?_ | refine And.intro (Or.inl rfl) ?_ | refine And.intro (Or.inr rfl) ?_ | refine And.intro (Nat.le_of_ble_eq_true rfl) ?_ | refine And.intro (And.intro rfl rfl) ?_ | exact rfl
      refine zs_53_31 ?_
      repeat' first | refine And.intro rfl ?_ | refine And.intro (Or.inl rfl) ?_ | refine And.intro (Or.inr rfl) ?_ | refine And.intro (Nat.le_of_ble_eq_true rfl) ?_ | refine And.intro (And.intro rfl rfl) ?_ | exact rfl
      refine And.intro (fun (h16 : x < 0) => ?_) (fun (h16 : ¬ (x < 0)) => ?_)
      · try simp only [if_pos h16]
        refine zs_53_63 ?_
        repeat' first | refine And.intro rfl ?_ | refine And.intro (Or.inl rfl) ?_ | refine And.intro (Or.inr rfl) ?_ | refine And.intro (Nat.le_of_ble_eq_true rfl) ?_ | refine And.intro (And.intro rfl rfl) ?_ | exact rfl
      · try simp only [if_neg h16]
        repeat' first | refine And.intro rfl ?_ | refine And.intro (Or.inl rfl) ?_ | refine And.intro (Or.inr rfl) ?_ | refine And.intro (Nat.le_of_ble_eq_true rfl) ?_ | refine And.intro (And.intro rfl rfl) ?_ | exact rfl
        refine And.intro (fun (h17 : (nI 26) ≤ x) => ?_) (fun (h17 : ¬ ((nI 26) ≤ x)) => ?_)
        · try simp only [if_pos h17]
          refine zs_53_63 ?_
          repeat' first | refine And.intro rfl ?_ | refine And.intro (Or.inl rfl) ?_ | refine And.intro (Or.inr rfl) ?_ | refine And.intro (Nat.le_of_ble_eq_true rfl) ?_ | refine And.intro (And.intro rfl rfl) ?_ | exact rfl
        · try simp only [if_neg h17]
          repeat' first | refine And.intro rfl ?_ | refine And.intro (Or.inl rfl) ?_ | refine And.intro (Or.inr rfl) ?_ | refine And.intro (Nat.le_of_ble_eq_true rfl) ?_ | refine And.intro (And.intro rfl rfl) ?_ | exact rfl
          refine And.intro (fun (h18 : ((13 + y) + 1) < 0) => ?_) (fun (h18 : ¬ (((13 + y) + 1) < 0)) => ?_)
          · try simp only [if_pos h18]
            refine zs_53_63 ?_
            repeat' first | refine And.intro rfl ?_ | refine And.intro (Or.inl rfl) ?_ | refine And.intro (Or.inr rfl) ?_ | refine And.intro (Nat.le_of_ble_eq_true rfl) ?_ | refine And.intro (And.intro rfl rfl) ?_ | exact rfl
          · try simp only [if_neg h18]
            repeat' first | refine And.intro rfl ?_ | refine And.intro (Or.inl rfl) ?_ | refine And.intro (Or.inr rfl) ?_ | refine And.intro (Nat.le_of_ble_eq_true rfl) ?_ | refine And.intro (And.intro rfl rfl) ?_ | exact rfl
            refine And.intro (fun (h19 : ((13 + y) + 1) < (nI 26)) => ?_) (fun (h19 : ¬ (((13 + y) + 1) < (nI 26))) => ?_)
            · try simp only [if_pos h19]
              refine zs_53_66 ?_
              repeat' first | refine And.intro rfl ?_ | refine And.intro (Or.inl rfl) ?_ | refine And.intro (Or.inr rfl) ?_ | refine And.intro (Nat.le_of_ble_eq_true rfl) ?_ | refine And.intro (And.intro rfl rfl) ?_ | exact rfl
              refine And.intro (zz_vin (n := 26) h16 h17 (Nat.le_of_ble_eq_true rfl)) ?_
              repeat' first | refine And.intro rfl ?_ | refine And.intro (Or.inl rfl) ?_ | refine And.intro (Or.inr rfl) ?_ | refine And.intro (Nat.le_of_ble_eq_true rfl) ?_ | refine And.intro (And.intro rfl rfl) ?_ | exact rfl
              refine And.intro (zz_vin (n := 26) h18 (zz_lt_nle h19) (Nat.le_of_ble_eq_true rfl)) ?_
              repeat' first | refine And.intro rfl ?_ | refine And.intro (Or.inl rfl) ?_ | refine And.intro (Or.inr rfl) ?_ | refine And.intro (Nat.le_of_ble_eq_true rfl) ?_ | refine And.intro (And.intro rfl rfl) ?_ | exact rfl
              refine And.intro (fun (h20 : (((I 43 x.toNatClampNeg) * 12) + (I 43 (((13 + y) + 1).toNatClampNeg))) < 0) => ?_) (fun (h20 : ¬ ((((I 43 x.toNatClampNeg) * 12) + (I 43 (((13 + y) + 1).toNatClampNeg))) < 0)) => ?_)
              · try simp only [if_pos h20]
                refine zs_53_111 ?_
                repeat' first | refine And.intro rfl ?_ | refine And.intro (Or.inl rfl) ?_ | refine And.intro (Or.inr rfl) ?_ | refine And.intro (Nat.le_of_ble_eq_true rfl) ?_ | refine And.intro (And.intro rfl rfl) ?_ | exact rfl
                refine zs_53_113 ?_
                repeat' first | refine And.intro rfl ?_ | refine And.intro (Or.inl rfl) ?_ | refine And.intro (Or.inr rfl) ?_ | refine And.intro (Nat.le_of_ble_eq_true rfl) ?_ | refine And.intro (And.intro rfl rfl) ?_ | exact rfl
              · try simp only [if_neg h20]
                repeat' first | refine And.intro rfl ?_ | refine And.intro (Or.inl rfl) ?_ | refine And.intro (Or.inr rfl) ?_ | refine And.intro (Nat.le_of_ble_eq_true rfl) ?_ | refine And.intro (And.intro rfl rfl) ?_ | exact rfl
                refine And.intro (fun (h21 : (nI 156) ≤ (((I 43 x.toNatClampNeg) * 12) + (I 43 (((13 + y) + 1).toNatClampNeg)))) => ?_) (fun (h21 : ¬ ((nI 156) ≤ (((I 43 x.toNatClampNeg) * 12) + (I 43 (((13 + y) + 1).toNatClampNeg))))) => ?_)
                · try simp only [if_pos h21]
                  refine zs_53_111 ?_
                  repeat' first | refine And.intro rfl ?_ | refine And.intro (Or.inl rfl) ?_ | refine And.intro (Or.inr rfl) ?_ | refine And.intro (Nat.le_of_ble_eq_true rfl) ?_ | refine And.intro (And.intro rfl rfl) ?_ | exact rfl
                  refine zs_53_113 ?_
                  repeat' first | refine And.intro rfl ?_ | refine And.intro (Or.inl rfl) ?_ | refine And.intro (Or.inr rfl) ?_ | refine And.intro (Nat.le_of_ble_eq_true rfl) ?_ | refine And.intro (And.intro rfl rfl) ?_ | exact rfl
                · try simp only [if_neg h21]
                  repeat' first | refine And.intro rfl ?_ | refine And.intro (Or.inl rfl) ?_ | refine And.intro (Or.inr rfl) ?_ | refine And.intro (Nat.le_of_ble_eq_true rfl) ?_ | refine And.intro (And.intro rfl rfl) ?_ | exact rfl
                  refine And.intro (zz_vin (n := 156) h20 h21 (Nat.le_of_ble_eq_true rfl)) ?_
                  repeat' first | refine And.intro rfl ?_ | refine And.intro (Or.inl rfl) ?_ | refine And.intro (Or.inr rfl) ?_ | refine And.intro (Nat.le_of_ble_eq_true rfl) ?_ | refine And.intro (And.intro rfl rfl) ?_ | exact rfl
                  refine zs_53_113 ?_
                  repeat' first | refine And.intro rfl ?_ | refine And.intro (Or.inl rfl) ?_ | refine And.intro (Or.inr rfl) ?_ | refine And.intro (Nat.le_of_ble_eq_true rfl) ?_ | refine And.intro (And.intro rfl rfl) ?_ | exact rfl
            · try simp only [if_neg h19]
              repeat' first | refine And.intro rfl ?_ | refine And.intro (Or.inl rfl) ?_ | refine And.intro (Or.inr rfl) ?_ | refine And.intro (Nat.le_of_ble_eq_true rfl) ?_ | refine And.intro (And.intro rfl rfl) ?_ | exact rfl
              refine zs_53_63 ?_
              repeat' first | refine And.intro rfl ?_ | refine And.intro (Or.inl rfl) ?_ | refine And.intro (Or.inr rfl) ?_ | refine And.intro (Nat.le_of_ble_eq_true rfl) ?_ | refine And.intro (And.intro rfl rfl) ?_ | exact rfl
    · try simp only [if_neg h15]
      repeat' first | refine And.intro rfl ?_ | refine And.intro (Or.inl rfl) ?_ | refine And.intro (Or.inr rfl) ?_ | refine And.intro (Nat.le_of_ble_eq_true rfl) ?_ | refine And.intro (And.intro rfl rfl) ?_ | exact rfl
      refine zs_53_31 ?_
      repeat' first | refine And.intro rfl ?_ | refine And.intro (Or.inl rfl) ?_ | refine And.intro (Or.inr rfl) ?_ | refine And.intro (Nat.le_of_ble_eq_true rfl) ?_ | refine And.intro (And.intro rfl rfl) ?_ | exact rfl
      refine And.intro (fun (h22 : x < 0) => ?_) (fun (h22 : ¬ (x < 0)) => ?_)
      · try simp only [if_pos h22]
        refine zs_53_63 ?_
        repeat' first | refine And.intro rfl ?_ | refine And.intro (Or.inl rfl) ?_ | refine And.intro (Or.inr rfl) ?_ | refine And.intro (Nat.le_of_ble_eq_true rfl) ?_ | refine And.intro (And.intro rfl rfl) ?_ | exact rfl
      · try simp only [if_neg h22]
        repeat' first | refine And.intro rfl ?_ | refine And.intro (Or.inl rfl) ?_ | refine And.intro (Or.inr rfl) ?_ | refine And.intro (Nat.le_of_ble_eq_true rfl) ?_ | refine And.intro (And.intro rfl rfl) ?_ | exact rfl
        refine And.intro (fun (h23 : (nI 26) ≤ x) => ?_) (fun (h23 : ¬ ((nI 26) ≤ x)) => ?_)
        · try simp only [if_pos h23]
          refine zs_53_63 ?_
          repeat' first | refine And.intro rfl ?_ | refine And.intro (Or.inl rfl) ?_ | refine And.intro (Or.inr rfl) ?_ | refine And.intro (Nat.le_of_ble_eq_true rfl) ?_ | refine And.intro (And.intro rfl rfl) ?_ | exact rfl
        · try simp only [if_neg h23]
          repeat' first | refine And.intro rfl ?_ | refine And.intro (Or.inl rfl) ?_ | refine And.intro (Or.inr rfl) ?_ | refine And.intro (Nat.le_of_ble_eq_true rfl) ?_ | refine And.intro (And.intro rfl rfl) ?_ | exact rfl
          refine And.intro (fun (h24 : (x + 1) < 0) => ?_) (fun (h24 : ¬ ((x + 1) < 0)) => ?_)
          · try simp only [if_pos h24]
            refine zs_53_63 ?_
            repeat' first | refine And.intro rfl ?_ | refine And.intro (Or.inl rfl) ?_ | refine And.intro (Or.inr rfl) ?_ | refine And.intro (Nat.le_of_ble_eq_true rfl) ?_ | refine And.intro (And.intro rfl rfl) ?_ | exact rfl
          · try simp only [if_neg h24]
            repeat' first | refine And.intro rfl ?_ | refine And.intro (Or.inl rfl) ?_ | refine And.intro (Or.inr rfl) ?_ | refine And.intro (Nat.le_of_ble_eq_true rfl) ?_ | refine And.intro (And.intro rfl rfl) ?_ | exact rfl
            refine And.intro (fun (h25 : (x + 1) < (nI 26)) => ?_) (fun (h25 : ¬ ((x + 1) < (nI 26))) => ?_)
            · try simp only [if_pos h25]
              refine zs_53_66 ?_
              repeat' first | refine And.intro rfl ?_ | refine And.intro (Or.inl rfl) ?_ | refine And.intro (Or.inr rfl) ?_ | refine And.intro (Nat.le_of_ble_eq_true rfl) ?_ | refine And.intro (And.intro rfl rfl) ?_ | exact rfl
              refine And.intro (zz_vin (n := 26) h22 h23 (Nat.le_of_ble_eq_true rfl)) ?_
              repeat' first | refine And.intro rfl ?_ | refine And.intro (Or.inl rfl) ?_ | refine And.intro (Or.inr rfl) ?_ | refine And.intro (Nat.le_of_ble_eq_true rfl) ?_ | refine And.intro (And.intro rfl rfl) ?_ | exact rfl
              refine And.intro (zz_vin (n := 26) h24 (zz_lt_nle h25) (Nat.le_of_ble_eq_true rfl)) ?_
              repeat' first | refine And.intro rfl ?_ | refine And.intro (Or.inl rfl) ?_ | refine And.intro (Or.inr rfl) ?_ | refine And.intro (Nat.le_of_ble_eq_true rfl) ?_ | refine And.intro (And.intro rfl rfl) ?_ | exact rfl
              refine And.intro (fun (h26 : (((I 43 x.toNatClampNeg) * 12) + (I 43 ((x + 1).toNatClampNeg))) < 0) => ?_) (fun (h26 : ¬ ((((I 43 x.toNatClampNeg) * 12) + (I 43 ((x + 1).toNatClampNeg))) < 0)) => ?_)
              · try simp only [if_pos h26]
                refine zs_53_111 ?_
                repeat' first | refine And.intro rfl ?_ | refine And.intro (Or.inl rfl) ?_ | refine And.intro (Or.inr rfl) ?_ | refine And.intro (Nat.le_of_ble_eq_true rfl) ?_ | refine And.intro (And.intro rfl rfl) ?_ | exact rfl
                refine zs_53_113 ?_
                repeat' first | refine And.intro rfl ?_ | refine And.intro (Or.inl rfl) ?_ | refine And.intro (Or.inr rfl) ?_ | refine And.intro (Nat.le_of_ble_eq_true rfl) ?_ | refine And.intro (And.intro rfl rfl) ?_ | exact rfl
              · try simp only [if_neg h26]
                repeat' first | refine And.intro rfl ?_ | refine And.intro (Or.inl rfl) ?_ | refine And.intro (Or.inr rfl) ?_ | refine And.intro (Nat.le_of_ble_eq_true rfl) ?_ | refine And.intro (And.intro rfl rfl) ?_ | exact rfl
                refine And.intro (fun (h27 : (nI 156) ≤ (((I 43 x.toNatClampNeg) * 12) + (I 43 ((x + 1).toNatClampNeg)))) => ?_) (fun (h27 : ¬ ((nI 156) ≤ (((I 43 x.toNatClampNeg) * 12) + (I 43 ((x + 1).toNatClampNeg))))) => ?_)
                · try simp only [if_pos h27]
                  refine zs_53_111 ?_
                  repeat' first | refine And.intro rfl ?_ | refine And.intro (Or.inl rfl) ?_ | refine And.intro (Or.inr rfl) ?_ | refine And.intro (Nat.le_of_ble_eq_true rfl) ?_ | refine And.intro (And.intro rfl rfl) ?_ | exact rfl
                  refine zs_53_113 ?_
                  repeat' first | refine And.intro rfl ?_ | refine And.intro (Or.inl rfl) ?_ | refine And.intro (Or.inr rfl) ?_ | refine And.intro (Nat.le_of_ble_eq_true rfl) ?_ | refine And.intro (And.intro rfl rfl) ?_ | exact rfl
                · try simp only [if_neg h27]
                  repeat' first | refine And.intro rfl ?_ | refine And.intro (Or.inl rfl) ?_ | refine And.intro (Or.inr rfl) ?_ | refine And.intro (Nat.le_of_ble_eq_true rfl) ?_ | refine And.intro (And.intro rfl rfl) ?_ | exact rfl
                  refine And.intro (zz_vin (n := 156) h26 h27 (Nat.le_of_ble_eq_true rfl)) ?_
                  repeat' first | refine And.intro rfl ?_ | refine And.intro (Or.inl rfl) ?_ | refine And.intro (Or.inr rfl) ?_ | refine And.intro (Nat.le_of_ble_eq_true rfl) ?_ | refine And.intro (And.intro rfl rfl) ?_ | exact rfl
                  refine zs_53_113 ?_
                  repeat' first | refine And.intro rfl ?_ | refine And.intro (Or.inl rfl) ?_ | refine And.intro (Or.inr rfl) ?_ | refine And.intro (Nat.le_of_ble_eq_true rfl) ?_ | refine And.intro (And.intro rfl rfl) ?_ | exact rfl
            · try simp only [if_neg h25]
              repeat' first | refine And.intro rfl ?_ | refine And.intro (Or.inl rfl) ?_ | refine And.intro (Or.inr rfl) ?_ | refine And.intro (Nat.le_of_ble_eq_true rfl) ?_ | refine And.intro (And.intro rfl rfl) ?_ | exact rfl
              refine zs_53_63 ?_
              repeat' first | refine And.intro rfl ?_ | refine And.intro (Or.inl rfl) ?_ | refine And.intro (Or.inr rfl) ?_ | refine And.intro (Nat.le_of_ble_eq_true rfl) ?_ | refine And.intro (And.intro rfl rfl) ?_ | exact rfl
def zv_X4_valueBehind (I : Nat → Nat → Int32) (x : Int32) (y : Int32) (z : Int32) : Int32 := if ¬ z = 0 then (if (((((x * 13) + y) + 1) * 2) + 1) < 0 then 1000000 else (if (nI 338) ≤ (((((x * 13) + y) + 1) * 2) + 1) then 1000000 else (I 44 ((((((x * 13) + y) + 1) * 2) + 1).toNatClampNeg)))) else (if ((((x + 1) * 13) + y) * 2) < 0 then 1000000 else (if (nI 338) ≤ ((((x + 1) * 13) + y) * 2) then 1000000 else (I 44 (((((x + 1) * 13) + y) * 2).toNatClampNeg))))
theorem zr_X4_valueBehind (F : zz_F) (I : Nat → Nat → Int32) (J : Nat → Nat → Int64) (d : Nat) (x : Int32) (y : Int32) (z : Int32) : zz_run (d) 54 0 [some (.ref 41), some (.int (x)), some (.int (y)), some (.int (z)), none] [] (zz_S F I J) (some (.int (zv_X4_valueBehind I x y z))) (zz_S F (I) (J)) := by
  unfold zv_X4_valueBehind
  refine zs_54_0 ?_
  repeat' first | refine And.intro rfl ?_ | refine And.intro (Or.inl rfl) ?_ | refine And.intro (Or.inr rfl) ?_ | refine And.intro (Nat.le_of_ble_eq_true rfl) ?_ | refine And.intro (And.intro rfl rfl) ?_ | exact rfl
  refine And.intro (fun (h1 : ¬ z = 0) => ?_) (fun (h1 : ¬ (¬ z = 0)) => ?_)
  · try simp only [if_pos h1]
    refine zs_54_17 ?_
    repeat' first | refine And.intro rfl ?_ | refine And.intro (Or.inl rfl) ?_ | refine And.intro (Or.inr rfl) ?_ | refine And.intro (Nat.le_of_ble_eq_true rfl) ?_ | refine And.intro (And.intro rfl rfl) ?_ | exact rfl
    refine zs_54_29 ?_
    repeat' first | refine And.intro rfl ?_ | refine And.intro (Or.inl rfl) ?_ | refine And.intro (Or.inr rfl) ?_ | refine And.intro (Nat.le_of_ble_eq_true rfl) ?_ | refine And.intro (And.intro rfl rfl) ?_ | exact rfl
    refine And.intro (fun (h2 : (((((x * 13) + y) + 1) * 2) + 1) < 0) => ?_) (fun (h2 : ¬ ((((((x * 13) + y) + 1) * 2) + 1) < 0)) => ?_)
    · try simp only [if_pos h2]
      refine zs_54_56 ?_
      repeat' first | refine And.intro rfl ?_ | refine And.intro (Or.inl rfl) ?_ | refine And.intro (Or.inr rfl) ?_ | refine And.intro (Nat.le_of_ble_eq_true rfl) ?_ | refine And.intro (And.intro rfl rfl) ?_ | exact rfl
      refine zs_54_58 ?_
      repeat' first | refine And.intro rfl ?_ | refine And.intro (Or.inl rfl) ?_ | refine And.intro (Or.inr rfl) ?_ | refine And.intro (Nat.le_of_ble_eq_true rfl) ?_ | refine And.intro (And.intro rfl rfl) ?_ | exact rfl
    · try simp only [if_neg h2]
      repeat' first | refine And.intro rfl ?_ | refine And.intro (Or.inl rfl) ?_ | refine And.intro (Or.inr rfl) ?_ | refine And.intro (Nat.le_of_ble_eq_true rfl) ?_ | refine And.intro (And.intro rfl rfl) ?_ | exact rfl
      refine And.intro (fun (h3 : (nI 338) ≤ (((((x * 13) + y) + 1) * 2) + 1)) => ?_) (fun (h3 : ¬ ((nI 338) ≤ (((((x * 13) + y) + 1) * 2) + 1))) => ?_)
      · try simp only [if_pos h3]
        refine zs_54_56 ?_
        repeat' first | refine And.intro rfl ?_ | refine And.intro (Or.inl rfl) ?_ | refine And.intro (Or.inr rfl) ?_ | refine And.intro (Nat.le_of_ble_eq_true rfl) ?_ | refine And.intro (And.intro rfl rfl) ?_ | exact rfl
        refine zs_54_58 ?_
        repeat' first | refine And.intro rfl ?_ | refine And.intro (Or.inl rfl) ?_ | refine And.intro (Or.inr rfl) ?_ | refine And.intro (Nat.le_of_ble_eq_true rfl) ?_ | refine And.intro (And.intro rfl rfl) ?_ | exact rfl
      · try simp only [if_neg h3]
        repeat' first | refine And.intro rfl ?_ | refine And.intro (Or.inl rfl) ?_ | refine And.intro (Or.inr rfl) ?_ | refine And.intro (Nat.le_of_ble_eq_true rfl) ?_ | refine And.intro (And.intro rfl rfl) ?_ | exact rfl
        refine And.intro (zz_vin (n := 338) h2 h3 (Nat.le_of_ble_eq_true rfl)) ?_
        repeat' first | refine And.intro rfl ?_ | refine And.intro (Or.inl rfl) ?_ | refine And.intro (Or.inr rfl) ?_ | refine And.intro (Nat.le_of_ble_eq_true rfl) ?_ | refine And.intro (And.intro rfl rfl) ?_ | exact rfl
        refine zs_54_58 ?_
        repeat' first | refine And.intro rfl ?_ | refine And.intro (Or.inl rfl) ?_ | refine And.intro (Or.inr rfl) ?_ | refine And.intro (Nat.le_of_ble_eq_true rfl) ?_ | refine And.intro (And.intro rfl rfl) ?_ | exact rfl
  · try simp only [if_neg h1]
    repeat' first | refine And.intro rfl ?_ | refine And.intro (Or.inl rfl) ?_ | refine And.intro (Or.inr rfl) ?_ | refine And.intro (Nat.le_of_ble_eq_true rfl) ?_ | refine And.intro (And.intro rfl rfl) ?_ | exact rfl
    refine zs_54_29 ?_
    repeat' first | refine And.intro rfl ?_ | refine And.intro (Or.inl rfl) ?_ | refine And.intro (Or.inr rfl) ?_ | refine And.intro (Nat.le_of_ble_eq_true rfl) ?_ | refine And.intro (And.intro rfl rfl) ?_ | exact rfl
    refine And.intro (fun (h4 : ((((x + 1) * 13) + y) * 2) < 0) => ?_) (fun (h4 : ¬ (((((x + 1) * 13) + y) * 2) < 0)) => ?_)
    · try simp only [if_pos h4]
      refine zs_54_56 ?_
      repeat' first | refine And.intro rfl ?_ | refine And.intro (Or.inl rfl) ?_ | refine And.intro (Or.inr rfl) ?_ | refine And.intro (Nat.le_of_ble_eq_true rfl) ?_ | refine And.intro (And.intro rfl rfl) ?_ | exact rfl
      refine zs_54_58 ?_
      repeat' first | refine And.intro rfl ?_ | refine And.intro (Or.inl rfl) ?_ | refine And.intro (Or.inr rfl) ?_ | refine And.intro (Nat.le_of_ble_eq_true rfl) ?_ | refine And.intro (And.intro rfl rfl) ?_ | exact rfl
    · try simp only [if_neg h4]
      repeat' first | refine And.intro rfl ?_ | refine And.intro (Or.inl rfl) ?_ | refine And.intro (Or.inr rfl) ?_ | refine And.intro (Nat.le_of_ble_eq_true rfl) ?_ | refine And.intro (And.intro rfl rfl) ?_ | exact rfl
      refine And.intro (fun (h5 : (nI 338) ≤ ((((x + 1) * 13) + y) * 2)) => ?_) (fun (h5 : ¬ ((nI 338) ≤ ((((x + 1) * 13) + y) * 2))) => ?_)
      · try simp only [if_pos h5]
        refine zs_54_56 ?_
        repeat' first | refine And.intro rfl ?_ | refine And.intro (Or.inl rfl) ?_ | refine And.intro (Or.inr rfl) ?_ | refine And.intro (Nat.le_of_ble_eq_true rfl) ?_ | refine And.intro (And.intro rfl rfl) ?_ | exact rfl
        refine zs_54_58 ?_
        repeat' first | refine And.intro rfl ?_ | refine And.intro (Or.inl rfl) ?_ | refine And.intro (Or.inr rfl) ?_ | refine And.intro (Nat.le_of_ble_eq_true rfl) ?_ | refine And.intro (And.intro rfl rfl) ?_ | exact rfl
      · try simp only [if_neg h5]
        repeat' first | refine And.intro rfl ?_ | refine And.intro (Or.inl rfl) ?_ | refine And.intro (Or.inr rfl) ?_ | refine And.intro (Nat.le_of_ble_eq_true rfl) ?_ | refine And.intro (And.intro rfl rfl) ?_ | exact rfl
        refine And.intro (zz_vin (n := 338) h4 h5 (Nat.le_of_ble_eq_true rfl)) ?_
        repeat' first | refine And.intro rfl ?_ | refine And.intro (Or.inl rfl) ?_ | refine And.intro (Or.inr rfl) ?_ | refine And.intro (Nat.le_of_ble_eq_true rfl) ?_ | refine And.intro (And.intro rfl rfl) ?_ | exact rfl
        refine zs_54_58 ?_
        repeat' first | refine And.intro rfl ?_ | refine And.intro (Or.inl rfl) ?_ | refine And.intro (Or.inr rfl) ?_ | refine And.intro (Nat.le_of_ble_eq_true rfl) ?_ | refine And.intro (And.intro rfl rfl) ?_ | exact rfl
def zv_X4_restBy (I : Nat → Nat → Int32) (x : Int32) (y : Int32) (z : Int32) (w : Int32) : Int32 := (zv_X4_stepBy I x y z w) + (zv_X4_valueBehind I x y w)
theorem zr_X4_restBy (F : zz_F) (I : Nat → Nat → Int32) (J : Nat → Nat → Int64) (d : Nat) (x : Int32) (y : Int32) (z : Int32) (w : Int32) : zz_run (d+1) 55 0 [some (.ref 41), some (.int (x)), some (.int (y)), some (.int (z)), some (.int (w))] [] (zz_S F I J) (some (.int (zv_X4_restBy I x y z w))) (zz_S F (I) (J)) := by
  unfold zv_X4_restBy
  refine zs_55_0 ?_
  repeat' first | refine And.intro rfl ?_ | refine And.intro (Or.inl rfl) ?_ | refine And.intro (Or.inr rfl) ?_ | refine And.intro (Nat.le_of_ble_eq_true rfl) ?_ | refine And.intro (And.intro rfl rfl) ?_ | exact rfl
  refine Exists.intro _ (Exists.intro _ (And.intro (zr_X4_stepBy F I J d x y z w) ?_))
  repeat' first | refine And.intro rfl ?_ | refine And.intro (Or.inl rfl) ?_ | refine And.intro (Or.inr rfl) ?_ | refine And.intro (Nat.le_of_ble_eq_true rfl) ?_ | refine And.intro (And.intro rfl rfl) ?_ | exact rfl
  refine Exists.intro _ (Exists.intro _ (And.intro (zr_X4_valueBehind F I J d x y w) ?_))
  repeat' first | refine And.intro rfl ?_ | refine And.intro (Or.inl rfl) ?_ | refine And.intro (Or.inr rfl) ?_ | refine And.intro (Nat.le_of_ble_eq_true rfl) ?_ | refine And.intro (And.intro rfl rfl) ?_ | exact rfl
def zv_X4_restFrom (I : Nat → Nat → Int32) (x : Int32) (y : Int32) (z : Int32) (w : Int32) : Int32 := if x < (I 41 6) then (if y < (I 41 7) then (if w = 0 then (zz_min (zv_X4_restBy I x y z 0) (zv_X4_restBy I x y z 1)) else (zz_max (zv_X4_restBy I x y z 0) (zv_X4_restBy I x y z 1))) else (zv_X4_restBy I x y z 0)) else (if y < (I 41 7) then (zv_X4_restBy I x y z 1) else 0)
theorem zr_X4_restFrom (F : zz_F) (I : Nat → Nat → Int32) (J : Nat → Nat → Int64) (d : Nat) (x : Int32) (y : Int32) (z : Int32) (w : Int32) : zz_run (d+2) 56 0 [some (.ref 41), some (.int (x)), some (.int (y)), some (.int (z)), some (.int (w)), none, none] [] (zz_S F I J) (some (.int (zv_X4_restFrom I x y z w))) (zz_S F (I) (J)) := by
  unfold zv_X4_restFrom
  refine zs_56_0 ?_
  repeat' first | refine And.intro rfl ?_ | refine And.intro (Or.inl rfl) ?_ | refine And.intro (Or.inr rfl) ?_ | refine And.intro (Nat.le_of_ble_eq_true rfl) ?_ | refine And.intro (And.intro rfl rfl) ?_ | exact rfl
  refine And.intro (fun (h1 : x < (I 41 6)) => ?_) (fun (h1 : ¬ (x < (I 41 6))) => ?_)
  · try simp only [if_pos h1]
    refine zs_56_29 ?_
    repeat' first | refine And.intro rfl ?_ | refine And.intro (Or.inl rfl) ?_ | refine And.intro (Or.inr rfl) ?_ | refine And.intro (Nat.le_of_ble_eq_true rfl) ?_ | refine And.intro (And.intro rfl rfl) ?_ | exact rfl
    refine Exists.intro _ (Exists.intro _ (And.intro (zr_X4_restBy F I J d x y z 0) ?_))
    repeat' first | refine And.intro rfl ?_ | refine And.intro (Or.inl rfl) ?_ | refine And.intro (Or.inr rfl) ?_ | refine And.intro (Nat.le_of_ble_eq_true rfl) ?_ | refine And.intro (And.intro rfl rfl) ?_ | exact rfl
    refine And.intro (fun (h2 : y < (I 41 7)) => ?_) (fun (h2 : ¬ (y < (I 41 7))) => ?_)
    · try simp only [if_pos h2]
      refine zs_56_50 ?_
      repeat' first | refine And.intro rfl ?_ | refine And.intro (Or.inl rfl) ?_ | refine And.intro (Or.inr rfl) ?_ | refine And.intro (Nat.le_of_ble_eq_true rfl) ?_ | refine And.intro (And.intro rfl rfl) ?_ | exact rfl
      refine Exists.intro _ (Exists.intro _ (And.intro (zr_X4_restBy F I J d x y z 1) ?_))
      repeat' first | refine And.intro rfl ?_ | refine And.intro (Or.inl rfl) ?_ | refine And.intro (Or.inr rfl) ?_ | refine And.intro (Nat.le_of_ble_eq_true rfl) ?_ | refine And.intro (And.intro rfl rfl) ?_ | exact rfl
      refine And.intro (fun (h3 : w = 0) => ?_) (fun (h3 : ¬ (w = 0)) => ?_)
      · try simp only [if_pos h3]
        refine zs_56_75 ?_
        repeat' first | refine And.intro rfl ?_ | refine And.intro (Or.inl rfl) ?_ | refine And.intro (Or.inr rfl) ?_ | refine And.intro (Nat.le_of_ble_eq_true rfl) ?_ | refine And.intro (And.intro rfl rfl) ?_ | exact rfl
        refine Exists.intro _ (Exists.intro _ (And.intro (zr_min F I J (d+1) (zv_X4_restBy I x y z 0) (zv_X4_restBy I x y z 1)) ?_))
        repeat' first | refine And.intro rfl ?_ | refine And.intro (Or.inl rfl) ?_ | refine And.intro (Or.inr rfl) ?_ | refine And.intro (Nat.le_of_ble_eq_true rfl) ?_ | refine And.intro (And.intro rfl rfl) ?_ | exact rfl
        refine zs_56_82 ?_
        repeat' first | refine And.intro rfl ?_ | refine And.intro (Or.inl rfl) ?_ | refine And.intro (Or.inr rfl) ?_ | refine And.intro (Nat.le_of_ble_eq_true rfl) ?_ | refine And.intro (And.intro rfl rfl) ?_ | exact rfl
      · try simp only [if_neg h3]
        repeat' first | refine And.intro rfl ?_ | refine And.intro (Or.inl rfl) ?_ | refine And.intro (Or.inr rfl) ?_ | refine And.intro (Nat.le_of_ble_eq_true rfl) ?_ | refine And.intro (And.intro rfl rfl) ?_ | exact rfl
        refine Exists.intro _ (Exists.intro _ (And.intro (zr_max F I J (d+1) (zv_X4_restBy I x y z 0) (zv_X4_restBy I x y z 1)) ?_))
        repeat' first | refine And.intro rfl ?_ | refine And.intro (Or.inl rfl) ?_ | refine And.intro (Or.inr rfl) ?_ | refine And.intro (Nat.le_of_ble_eq_true rfl) ?_ | refine And.intro (And.intro rfl rfl) ?_ | exact rfl
        refine zs_56_82 ?_
        repeat' first | refine And.intro rfl ?_ | refine And.intro (Or.inl rfl) ?_ | refine And.intro (Or.inr rfl) ?_ | refine And.intro (Nat.le_of_ble_eq_true rfl) ?_ | refine And.intro (And.intro rfl rfl) ?_ | exact rfl
    · try simp only [if_neg h2]
      repeat' first | refine And.intro rfl ?_ | refine And.intro (Or.inl rfl) ?_ | refine And.intro (Or.inr rfl) ?_ | refine And.intro (Nat.le_of_ble_eq_true rfl) ?_ | refine And.intro (And.intro rfl rfl) ?_ | exact rfl
  · try simp only [if_neg h1]
    repeat' first | refine And.intro rfl ?_ | refine And.intro (Or.inl rfl) ?_ | refine And.intro (Or.inr rfl) ?_ | refine And.intro (Nat.le_of_ble_eq_true rfl) ?_ | refine And.intro (And.intro rfl rfl) ?_ | exact rfl
    refine And.intro (fun (h4 : y < (I 41 7)) => ?_) (fun (h4 : ¬ (y < (I 41 7))) => ?_)
    · try simp only [if_pos h4]
      refine zs_56_20 ?_
      repeat' first | refine And.intro rfl ?_ | refine And.intro (Or.inl rfl) ?_ | refine And.intro (Or.inr rfl) ?_ | refine And.intro (Nat.le_of_ble_eq_true rfl) ?_ | refine And.intro (And.intro rfl rfl) ?_ | exact rfl
      refine Exists.intro _ (Exists.intro _ (And.intro (zr_X4_restBy F I J d x y z 1) ?_))
      repeat' first | refine And.intro rfl ?_ | refine And.intro (Or.inl rfl) ?_ | refine And.intro (Or.inr rfl) ?_ | refine And.intro (Nat.le_of_ble_eq_true rfl) ?_ | refine And.intro (And.intro rfl rfl) ?_ | exact rfl
      refine zs_56_28 ?_
      repeat' first | refine And.intro rfl ?_ | refine And.intro (Or.inl rfl) ?_ | refine And.intro (Or.inr rfl) ?_ | refine And.intro (Nat.le_of_ble_eq_true rfl) ?_ | refine And.intro (And.intro rfl rfl) ?_ | exact rfl
    · try simp only [if_neg h4]
      repeat' first | refine And.intro rfl ?_ | refine And.intro (Or.inl rfl) ?_ | refine And.intro (Or.inr rfl) ?_ | refine And.intro (Nat.le_of_ble_eq_true rfl) ?_ | refine And.intro (And.intro rfl rfl) ?_ | exact rfl
      refine zs_56_28 ?_
      repeat' first | refine And.intro rfl ?_ | refine And.intro (Or.inl rfl) ?_ | refine And.intro (Or.inr rfl) ?_ | refine And.intro (Nat.le_of_ble_eq_true rfl) ?_ | refine And.intro (And.intro rfl rfl) ?_ | exact rfl
def zv_X4_shortestFrom (I : Nat → Nat → Int32) (x : Int32) : Int32 := zv_X4_restBy I 0 0 0 x
theorem zr_X4_shortestFrom (F : zz_F) (I : Nat → Nat → Int32) (J : Nat → Nat → Int64) (d : Nat) (x : Int32) : zz_run (d+2) 60 0 [some (.ref 41), some (.int (x))] [] (zz_S F I J) (some (.int (zv_X4_shortestFrom I x))) (zz_S F (I) (J)) := by
  unfold zv_X4_shortestFrom
  refine zs_60_0 ?_
  repeat' first | refine And.intro rfl ?_ | refine And.intro (Or.inl rfl) ?_ | refine And.intro (Or.inr rfl) ?_ | refine And.intro (Nat.le_of_ble_eq_true rfl) ?_ | refine And.intro (And.intro rfl rfl) ?_ | exact rfl
  refine Exists.intro _ (Exists.intro _ (And.intro (zr_X4_restBy F I J d 0 0 0 x) ?_))
  repeat' first | refine And.intro rfl ?_ | refine And.intro (Or.inl rfl) ?_ | refine And.intro (Or.inr rfl) ?_ | refine And.intro (Nat.le_of_ble_eq_true rfl) ?_ | refine And.intro (And.intro rfl rfl) ?_ | exact rfl
def zv_X4_latestBy (I : Nat → Nat → Int32) (x : Int32) (y : Int32) (z : Int32) (w : Int32) : Int32 := if ¬ w = 0 then (if 0 < ((I 41 7) - y) then (if ¬ ((I 41 7) - y) = 1 then ((zv_X4_valueBehind I x y w) - (zv_X4_stepBy I x y z w)) else ((zz_min (zv_X4_valueBehind I x y w) (I 41 9)) - (zv_X4_stepBy I x y z w))) else ((-1000000))) else (if 0 < ((I 41 6) - x) then (if ¬ ((I 41 6) - x) = 1 then ((zv_X4_valueBehind I x y w) - (zv_X4_stepBy I x y z w)) else ((zz_min (zv_X4_valueBehind I x y w) (I 41 8)) - (zv_X4_stepBy I x y z w))) else ((-1000000)))
theorem zr_X4_latestBy (F : zz_F) (I : Nat → Nat → Int32) (J : Nat → Nat → Int64) (d : Nat) (x : Int32) (y : Int32) (z : Int32) (w : Int32) : zz_run (d+1) 63 0 [some (.ref 41), some (.int (x)), some (.int (y)), some (.int (z)), some (.int (w)), none, none] [] (zz_S F I J) (some (.int (zv_X4_latestBy I x y z w))) (zz_S F (I) (J)) := by
  unfold zv_X4_latestBy
  refine zs_63_0 ?_
  repeat' first | refine And.intro rfl ?_ | refine And.intro (Or.inl rfl) ?_ | refine And.intro (Or.inr rfl) ?_ | refine And.intro (Nat.le_of_ble_eq_true rfl) ?_ | refine And.intro (And.intro rfl rfl) ?_ | exact rfl
  refine And.intro (fun (h1 : ¬ w = 0) => ?_) (fun (h1 : ¬ (¬ w = 0)) => ?_)
  · try simp only [if_pos h1]
    refine zs_63_14 ?_
    repeat' first | refine And.intro rfl ?_ | refine And.intro (Or.inl rfl) ?_ | refine And.intro (Or.inr rfl) ?_ | refine And.intro (Nat.le_of_ble_eq_true rfl) ?_ | refine And.intro (And.intro rfl rfl) ?_ | exact rfl
    refine zs_63_20 ?_
    repeat' first | refine And.intro rfl ?_ | refine And.intro (Or.inl rfl) ?_ | refine And.intro (Or.inr rfl) ?_ | refine And.intro (Nat.le_of_ble_eq_true rfl) ?_ | refine And.intro (And.intro rfl rfl) ?_ | exact rfl
    refine And.intro (fun (h2 : 0 < ((I 41 7) - y)) => ?_) (fun (h2 : ¬ (0 < ((I 41 7) - y))) => ?_)
    · try simp only [if_pos h2]
      refine zs_63_30 ?_
      repeat' first | refine And.intro rfl ?_ | refine And.intro (Or.inl rfl) ?_ | refine And.intro (Or.inr rfl) ?_ | refine And.intro (Nat.le_of_ble_eq_true rfl) ?_ | refine And.intro (And.intro rfl rfl) ?_ | exact rfl
      refine Exists.intro _ (Exists.intro _ (And.intro (zr_X4_valueBehind F I J d x y w) ?_))
      repeat' first | refine And.intro rfl ?_ | refine And.intro (Or.inl rfl) ?_ | refine And.intro (Or.inr rfl) ?_ | refine And.intro (Nat.le_of_ble_eq_true rfl) ?_ | refine And.intro (And.intro rfl rfl) ?_ | exact rfl
      refine And.intro (fun (h3 : ¬ ((I 41 7) - y) = 1) => ?_) (fun (h3 : ¬ (¬ ((I 41 7) - y) = 1)) => ?_)
      · try simp only [if_pos h3]
        refine zs_63_69 ?_
        repeat' first | refine And.intro rfl ?_ | refine And.intro (Or.inl rfl) ?_ | refine And.intro (Or.inr rfl) ?_ | refine And.intro (Nat.le_of_ble_eq_true rfl) ?_ | refine And.intro (And.intro rfl rfl) ?_ | exact rfl
        refine Exists.intro _ (Exists.intro _ (And.intro (zr_X4_stepBy F I J d x y z w) ?_))
        repeat' first | refine And.intro rfl ?_ | refine And.intro (Or.inl rfl) ?_ | refine And.intro (Or.inr rfl) ?_ | refine And.intro (Nat.le_of_ble_eq_true rfl) ?_ | refine And.intro (And.intro rfl rfl) ?_ | exact rfl
      · try simp only [if_neg h3]
        repeat' first | refine And.intro rfl ?_ | refine And.intro (Or.inl rfl) ?_ | refine And.intro (Or.inr rfl) ?_ | refine And.intro (Nat.le_of_ble_eq_true rfl) ?_ | refine And.intro (And.intro rfl rfl) ?_ | exact rfl
        refine And.intro (fun (h4 : ¬ w = 0) => ?_) (fun (h4 : ¬ (¬ w = 0)) => ?_)
        · skip
          refine zs_63_60 ?_
          repeat' first | refine And.intro rfl ?_ | refine And.intro (Or.inl rfl) ?_ | refine And.intro (Or.inr rfl) ?_ | refine And.intro (Nat.le_of_ble_eq_true rfl) ?_ | refine And.intro (And.intro rfl rfl) ?_ | exact rfl
          refine zs_63_64 ?_
          repeat' first | refine And.intro rfl ?_ | refine And.intro (Or.inl rfl) ?_ | refine And.intro (Or.inr rfl) ?_ | refine And.intro (Nat.le_of_ble_eq_true rfl) ?_ | refine And.intro (And.intro rfl rfl) ?_ | exact rfl
          refine Exists.intro _ (Exists.intro _ (And.intro (zr_min F I J d (zv_X4_valueBehind I x y w) (I 41 9)) ?_))
          repeat' first | refine And.intro rfl ?_ | refine And.intro (Or.inl rfl) ?_ | refine And.intro (Or.inr rfl) ?_ | refine And.intro (Nat.le_of_ble_eq_true rfl) ?_ | refine And.intro (And.intro rfl rfl) ?_ | exact rfl
          refine zs_63_69 ?_
          repeat' first | refine And.intro rfl ?_ | refine And.intro (Or.inl rfl) ?_ | refine And.intro (Or.inr rfl) ?_ | refine And.intro (Nat.le_of_ble_eq_true rfl) ?_ | refine And.intro (And.intro rfl rfl) ?_ | exact rfl
          refine Exists.intro _ (Exists.intro _ (And.intro (zr_X4_stepBy F I J d x y z w) ?_))
          repeat' first | refine And.intro rfl ?_ | refine And.intro (Or.inl rfl) ?_ | refine And.intro (Or.inr rfl) ?_ | refine And.intro (Nat.le_of_ble_eq_true rfl) ?_ | refine And.intro (And.intro rfl rfl) ?_ | exact rfl
        · skip
          exact absurd h1 h4
    · try simp only [if_neg h2]
      repeat' first | refine And.intro rfl ?_ | refine And.intro (Or.inl rfl) ?_ | refine And.intro (Or.inr rfl) ?_ | refine And.intro (Nat.le_of_ble_eq_true rfl) ?_ | refine And.intro (And.intro rfl rfl) ?_ | exact rfl
  · try simp only [if_neg h1]
    repeat' first | refine And.intro rfl ?_ | refine And.intro (Or.inl rfl) ?_ | refine And.intro (Or.inr rfl) ?_ | refine And.intro (Nat.le_of_ble_eq_true rfl) ?_ | refine And.intro (And.intro rfl rfl) ?_ | exact rfl
    refine zs_63_20 ?_
    repeat' first | refine And.intro rfl ?_ | refine And.intro (Or.inl rfl) ?_ | refine And.intro (Or.inr rfl) ?_ | refine And.intro (Nat.le_of_ble_eq_true rfl) ?_ | refine And.intro (And.intro rfl rfl) ?_ | exact rfl
    refine And.intro (fun (h5 : 0 < ((I 41 6) - x)) => ?_) (fun (h5 : ¬ (0 < ((I 41 6) - x))) => ?_)
    · try simp only [if_pos h5]
      refine zs_63_30 ?_
      repeat' first | refine And.intro rfl ?_ | refine And.intro (Or.inl rfl) ?_ | refine And.intro (Or.inr rfl) ?_ | refine And.intro (Nat.le_of_ble_eq_true rfl) ?_ | refine And.intro (And.intro rfl rfl) ?_ | exact rfl
      refine Exists.intro _ (Exists.intro _ (And.intro (zr_X4_valueBehind F I J d x y w) ?_))
      repeat' first | refine And.intro rfl ?_ | refine And.intro (Or.inl rfl) ?_ | refine And.intro (Or.inr rfl) ?_ | refine And.intro (Nat.le_of_ble_eq_true rfl) ?_ | refine And.intro (And.intro rfl rfl) ?_ | exact rfl
      refine And.intro (fun (h6 : ¬ ((I 41 6) - x) = 1) => ?_) (fun (h6 : ¬ (¬ ((I 41 6) - x) = 1)) => ?_)
      · try simp only [if_pos h6]
        refine zs_63_69 ?_
        repeat' first | refine And.intro rfl ?_ | refine And.intro (Or.inl rfl) ?_ | refine And.intro (Or.inr rfl) ?_ | refine And.intro (Nat.le_of_ble_eq_true rfl) ?_ | refine And.intro (And.intro rfl rfl) ?_ | exact rfl
        refine Exists.intro _ (Exists.intro _ (And.intro (zr_X4_stepBy F I J d x y z w) ?_))
        repeat' first | refine And.intro rfl ?_ | refine And.intro (Or.inl rfl) ?_ | refine And.intro (Or.inr rfl) ?_ | refine And.intro (Nat.le_of_ble_eq_true rfl) ?_ | refine And.intro (And.intro rfl rfl) ?_ | exact rfl
      · try simp only [if_neg h6]
        repeat' first | refine And.intro rfl ?_ | refine And.intro (Or.inl rfl) ?_ | refine And.intro (Or.inr rfl) ?_ | refine And.intro (Nat.le_of_ble_eq_true rfl) ?_ | refine And.intro (And.intro rfl rfl) ?_ | exact rfl
        refine And.intro (fun (h7 : ¬ w = 0) => ?_) (fun (h7 : ¬ (¬ w = 0)) => ?_)
        · skip
          exact absurd h7 h1
        · skip
          repeat' first | refine And.intro rfl ?_ | refine And.intro (Or.inl rfl) ?_ | refine And.intro (Or.inr rfl) ?_ | refine And.intro (Nat.le_of_ble_eq_true rfl) ?_ | refine And.intro (And.intro rfl rfl) ?_ | exact rfl
          refine zs_63_64 ?_
          repeat' first | refine And.intro rfl ?_ | refine And.intro (Or.inl rfl) ?_ | refine And.intro (Or.inr rfl) ?_ | refine And.intro (Nat.le_of_ble_eq_true rfl) ?_ | refine And.intro (And.intro rfl rfl) ?_ | exact rfl
          refine Exists.intro _ (Exists.intro _ (And.intro (zr_min F I J d (zv_X4_valueBehind I x y w) (I 41 8)) ?_))
          repeat' first | refine And.intro rfl ?_ | refine And.intro (Or.inl rfl) ?_ | refine And.intro (Or.inr rfl) ?_ | refine And.intro (Nat.le_of_ble_eq_true rfl) ?_ | refine And.intro (And.intro rfl rfl) ?_ | exact rfl
          refine zs_63_69 ?_
          repeat' first | refine And.intro rfl ?_ | refine And.intro (Or.inl rfl) ?_ | refine And.intro (Or.inr rfl) ?_ | refine And.intro (Nat.le_of_ble_eq_true rfl) ?_ | refine And.intro (And.intro rfl rfl) ?_ | exact rfl
          refine Exists.intro _ (Exists.intro _ (And.intro (zr_X4_stepBy F I J d x y z w) ?_))
          repeat' first | refine And.intro rfl ?_ | refine And.intro (Or.inl rfl) ?_ | refine And.intro (Or.inr rfl) ?_ | refine And.intro (Nat.le_of_ble_eq_true rfl) ?_ | refine And.intro (And.intro rfl rfl) ?_ | exact rfl
    · try simp only [if_neg h5]
      repeat' first | refine And.intro rfl ?_ | refine And.intro (Or.inl rfl) ?_ | refine And.intro (Or.inr rfl) ?_ | refine And.intro (Nat.le_of_ble_eq_true rfl) ?_ | refine And.intro (And.intro rfl rfl) ?_ | exact rfl
def zv_X4_latestAt (I : Nat → Nat → Int32) (x : Int32) (y : Int32) (z : Int32) : Int32 := if x < (I 41 6) then (zz_max (zv_X4_latestBy I x y z 0) (zv_X4_latestBy I x y z 1)) else (if y < (I 41 7) then (zz_max (zv_X4_latestBy I x y z 0) (zv_X4_latestBy I x y z 1)) else 1000000)
theorem zr_X4_latestAt (F : zz_F) (I : Nat → Nat → Int32) (J : Nat → Nat → Int64) (d : Nat) (x : Int32) (y : Int32) (z : Int32) : zz_run (d+2) 64 0 [some (.ref 41), some (.int (x)), some (.int (y)), some (.int (z))] [] (zz_S F I J) (some (.int (zv_X4_latestAt I x y z))) (zz_S F (I) (J)) := by
  unfold zv_X4_latestAt
  refine zs_64_0 ?_
  repeat' first | refine And.intro rfl ?_ | refine And.intro (Or.inl rfl) ?_ | refine And.intro (Or.inr rfl) ?_ | refine And.intro (Nat.le_of_ble_eq_true rfl) ?_ | refine And.intro (And.intro rfl rfl) ?_ | exact rfl
  refine And.intro (fun (h1 : x < (I 41 6)) => ?_) (fun (h1 : ¬ (x < (I 41 6))) => ?_)
  · try simp only [if_pos h1]
    refine zs_64_19 ?_
    repeat' first | refine And.intro rfl ?_ | refine And.intro (Or.inl rfl) ?_ | refine And.intro (Or.inr rfl) ?_ | refine And.intro (Nat.le_of_ble_eq_true rfl) ?_ | refine And.intro (And.intro rfl rfl) ?_ | exact rfl
    refine Exists.intro _ (Exists.intro _ (And.intro (zr_X4_latestBy F I J d x y z 0) ?_))
    repeat' first | refine And.intro rfl ?_ | refine And.intro (Or.inl rfl) ?_ | refine And.intro (Or.inr rfl) ?_ | refine And.intro (Nat.le_of_ble_eq_true rfl) ?_ | refine And.intro (And.intro rfl rfl) ?_ | exact rfl
    refine Exists.intro _ (Exists.intro _ (And.intro (zr_X4_latestBy F I J d x y z 1) ?_))
    repeat' first | refine And.intro rfl ?_ | refine And.intro (Or.inl rfl) ?_ | refine And.intro (Or.inr rfl) ?_ | refine And.intro (Nat.le_of_ble_eq_true rfl) ?_ | refine And.intro (And.intro rfl rfl) ?_ | exact rfl
    refine Exists.intro _ (Exists.intro _ (And.intro (zr_max F I J (d+1) (zv_X4_latestBy I x y z 0) (zv_X4_latestBy I x y z 1)) ?_))
    repeat' first | refine And.intro rfl ?_ | refine And.intro (Or.inl rfl) ?_ | refine And.intro (Or.inr rfl) ?_ | refine And.intro (Nat.le_of_ble_eq_true rfl) ?_ | refine And.intro (And.intro rfl rfl) ?_ | exact rfl
  · try simp only [if_neg h1]
    repeat' first | refine And.intro rfl ?_ | refine And.intro (Or.inl rfl) ?_ | refine And.intro (Or.inr rfl) ?_ | refine And.intro (Nat.le_of_ble_eq_true rfl) ?_ | refine And.intro (And.intro rfl rfl) ?_ | exact rfl
    refine And.intro (fun (h2 : y < (I 41 7)) => ?_) (fun (h2 : ¬ (y < (I 41 7))) => ?_)
    · try simp only [if_pos h2]
      refine zs_64_19 ?_
      repeat' first | refine And.intro rfl ?_ | refine And.intro (Or.inl rfl) ?_ | refine And.intro (Or.inr rfl) ?_ | refine And.intro (Nat.le_of_ble_eq_true rfl) ?_ | refine And.intro (And.intro rfl rfl) ?_ | exact rfl
      refine Exists.intro _ (Exists.intro _ (And.intro (zr_X4_latestBy F I J d x y z 0) ?_))
      repeat' first | refine And.intro rfl ?_ | refine And.intro (Or.inl rfl) ?_ | refine And.intro (Or.inr rfl) ?_ | refine And.intro (Nat.le_of_ble_eq_true rfl) ?_ | refine And.intro (And.intro rfl rfl) ?_ | exact rfl
      refine Exists.intro _ (Exists.intro _ (And.intro (zr_X4_latestBy F I J d x y z 1) ?_))
      repeat' first | refine And.intro rfl ?_ | refine And.intro (Or.inl rfl) ?_ | refine And.intro (Or.inr rfl) ?_ | refine And.intro (Nat.le_of_ble_eq_true rfl) ?_ | refine And.intro (And.intro rfl rfl) ?_ | exact rfl
      refine Exists.intro _ (Exists.intro _ (And.intro (zr_max F I J (d+1) (zv_X4_latestBy I x y z 0) (zv_X4_latestBy I x y z 1)) ?_))
      repeat' first | refine And.intro rfl ?_ | refine And.intro (Or.inl rfl) ?_ | refine And.intro (Or.inr rfl) ?_ | refine And.intro (Nat.le_of_ble_eq_true rfl) ?_ | refine And.intro (And.intro rfl rfl) ?_ | exact rfl
    · try simp only [if_neg h2]
      repeat' first | refine And.intro rfl ?_ | refine And.intro (Or.inl rfl) ?_ | refine And.intro (Or.inr rfl) ?_ | refine And.intro (Nat.le_of_ble_eq_true rfl) ?_ | refine And.intro (And.intro rfl rfl) ?_ | exact rfl
def zv_X4_reach (I : Nat → Nat → Int32) (x : Int32) (y : Int32) (z : Int32) : Int32 := if ¬ x = 0 then (if ¬ z = 0 then (if x < 0 then 1000000 else (if 0 ≤ (y - 1) then (zz_min ((zv_X4_valueAt I x (y - 1) 0) + (zv_X4_stepBy I x (y - 1) 0 z)) ((zv_X4_valueAt I x (y - 1) 1) + (zv_X4_stepBy I x (y - 1) 1 z))) else 1000000)) else (if (x - 1) < 0 then 1000000 else (if 0 ≤ y then (zz_min ((zv_X4_valueAt I (x - 1) y 0) + (zv_X4_stepBy I (x - 1) y 0 z)) ((zv_X4_valueAt I (x - 1) y 1) + (zv_X4_stepBy I (x - 1) y 1 z))) else 1000000))) else (if ¬ y = 0 then (if ¬ z = 0 then (if x < 0 then 1000000 else (if 0 ≤ (y - 1) then (zz_min ((zv_X4_valueAt I x (y - 1) 0) + (zv_X4_stepBy I x (y - 1) 0 z)) ((zv_X4_valueAt I x (y - 1) 1) + (zv_X4_stepBy I x (y - 1) 1 z))) else 1000000)) else (if (x - 1) < 0 then 1000000 else (if 0 ≤ y then (zz_min ((zv_X4_valueAt I (x - 1) y 0) + (zv_X4_stepBy I (x - 1) y 0 z)) ((zv_X4_valueAt I (x - 1) y 1) + (zv_X4_stepBy I (x - 1) y 1 z))) else 1000000))) else 0)
theorem zr_X4_reach (F : zz_F) (I : Nat → Nat → Int32) (J : Nat → Nat → Int64) (d : Nat) (x : Int32) (y : Int32) (z : Int32) : zz_run (d+1) 67 0 [some (.ref 41), some (.int (x)), some (.int (y)), some (.int (z)), none, none] [] (zz_S F I J) (some (.int (zv_X4_reach I x y z))) (zz_S F (I) (J)) := by
  unfold zv_X4_reach
  refine zs_67_0 ?_
  repeat' first | refine And.intro rfl ?_ | refine And.intro (Or.inl rfl) ?_ | refine And.intro (Or.inr rfl) ?_ | refine And.intro (Nat.le_of_ble_eq_true rfl) ?_ | refine And.intro (And.intro rfl rfl) ?_ | exact rfl
  refine And.intro (fun (h1 : ¬ x = 0) => ?_) (fun (h1 : ¬ (¬ x = 0)) => ?_)
  · try simp only [if_pos h1]
    refine zs_67_10 ?_
    repeat' first | refine And.intro rfl ?_ | refine And.intro (Or.inl rfl) ?_ | refine And.intro (Or.inr rfl) ?_ | refine And.intro (Nat.le_of_ble_eq_true rfl) ?_ | refine And.intro (And.intro rfl rfl) ?_ | exact rfl
    refine And.intro (fun (h2 : ¬ z = 0) => ?_) (fun (h2 : ¬ (¬ z = 0)) => ?_)
    · try simp only [if_pos h2]
      refine zs_67_20 ?_
      repeat' first | refine And.intro rfl ?_ | refine And.intro (Or.inl rfl) ?_ | refine And.intro (Or.inr rfl) ?_ | refine And.intro (Nat.le_of_ble_eq_true rfl) ?_ | refine And.intro (And.intro rfl rfl) ?_ | exact rfl
      refine zs_67_21 ?_
      repeat' first | refine And.intro rfl ?_ | refine And.intro (Or.inl rfl) ?_ | refine And.intro (Or.inr rfl) ?_ | refine And.intro (Nat.le_of_ble_eq_true rfl) ?_ | refine And.intro (And.intro rfl rfl) ?_ | exact rfl
      refine And.intro (fun (h3 : ¬ z = 0) => ?_) (fun (h3 : ¬ (¬ z = 0)) => ?_)
      · skip
        refine zs_67_31 ?_
        repeat' first | refine And.intro rfl ?_ | refine And.intro (Or.inl rfl) ?_ | refine And.intro (Or.inr rfl) ?_ | refine And.intro (Nat.le_of_ble_eq_true rfl) ?_ | refine And.intro (And.intro rfl rfl) ?_ | exact rfl
        refine zs_67_34 ?_
        repeat' first | refine And.intro rfl ?_ | refine And.intro (Or.inl rfl) ?_ | refine And.intro (Or.inr rfl) ?_ | refine And.intro (Nat.le_of_ble_eq_true rfl) ?_ | refine And.intro (And.intro rfl rfl) ?_ | exact rfl
        refine And.intro (fun (h4 : x < 0) => ?_) (fun (h4 : ¬ (x < 0)) => ?_)
        · try simp only [if_pos h4]
          refine zs_67_46 ?_
          repeat' first | refine And.intro rfl ?_ | refine And.intro (Or.inl rfl) ?_ | refine And.intro (Or.inr rfl) ?_ | refine And.intro (Nat.le_of_ble_eq_true rfl) ?_ | refine And.intro (And.intro rfl rfl) ?_ | exact rfl
        · try simp only [if_neg h4]
          repeat' first | refine And.intro rfl ?_ | refine And.intro (Or.inl rfl) ?_ | refine And.intro (Or.inr rfl) ?_ | refine And.intro (Nat.le_of_ble_eq_true rfl) ?_ | refine And.intro (And.intro rfl rfl) ?_ | exact rfl
          refine And.intro (fun (h5 : 0 ≤ (y - 1)) => ?_) (fun (h5 : ¬ (0 ≤ (y - 1))) => ?_)
          · try simp only [if_pos h5]
            refine zs_67_49 ?_
            repeat' first | refine And.intro rfl ?_ | refine And.intro (Or.inl rfl) ?_ | refine And.intro (Or.inr rfl) ?_ | refine And.intro (Nat.le_of_ble_eq_true rfl) ?_ | refine And.intro (And.intro rfl rfl) ?_ | exact rfl
            refine Exists.intro _ (Exists.intro _ (And.intro (zr_X4_valueAt F I J d x (y - 1) 0) ?_))
            repeat' first | refine And.intro rfl ?_ | refine And.intro (Or.inl rfl) ?_ | refine And.intro (Or.inr rfl) ?_ | refine And.intro (Nat.le_of_ble_eq_true rfl) ?_ | refine And.intro (And.intro rfl rfl) ?_ | exact rfl
            refine Exists.intro _ (Exists.intro _ (And.intro (zr_X4_stepBy F I J d x (y - 1) 0 z) ?_))
            repeat' first | refine And.intro rfl ?_ | refine And.intro (Or.inl rfl) ?_ | refine And.intro (Or.inr rfl) ?_ | refine And.intro (Nat.le_of_ble_eq_true rfl) ?_ | refine And.intro (And.intro rfl rfl) ?_ | exact rfl
            refine Exists.intro _ (Exists.intro _ (And.intro (zr_X4_valueAt F I J d x (y - 1) 1) ?_))
            repeat' first | refine And.intro rfl ?_ | refine And.intro (Or.inl rfl) ?_ | refine And.intro (Or.inr rfl) ?_ | refine And.intro (Nat.le_of_ble_eq_true rfl) ?_ | refine And.intro (And.intro rfl rfl) ?_ | exact rfl
            refine Exists.intro _ (Exists.intro _ (And.intro (zr_X4_stepBy F I J d x (y - 1) 1 z) ?_))
            repeat' first | refine And.intro rfl ?_ | refine And.intro (Or.inl rfl) ?_ | refine And.intro (Or.inr rfl) ?_ | refine And.intro (Nat.le_of_ble_eq_true rfl) ?_ | refine And.intro (And.intro rfl rfl) ?_ | exact rfl
            refine Exists.intro _ (Exists.intro _ (And.intro (zr_min F I J d ((zv_X4_valueAt I x (y - 1) 0) + (zv_X4_stepBy I x (y - 1) 0 z)) ((zv_X4_valueAt I x (y - 1) 1) + (zv_X4_stepBy I x (y - 1) 1 z))) ?_))
            repeat' first | refine And.intro rfl ?_ | refine And.intro (Or.inl rfl) ?_ | refine And.intro (Or.inr rfl) ?_ | refine And.intro (Nat.le_of_ble_eq_true rfl) ?_ | refine And.intro (And.intro rfl rfl) ?_ | exact rfl
          · try simp only [if_neg h5]
            repeat' first | refine And.intro rfl ?_ | refine And.intro (Or.inl rfl) ?_ | refine And.intro (Or.inr rfl) ?_ | refine And.intro (Nat.le_of_ble_eq_true rfl) ?_ | refine And.intro (And.intro rfl rfl) ?_ | exact rfl
            refine zs_67_46 ?_
            repeat' first | refine And.intro rfl ?_ | refine And.intro (Or.inl rfl) ?_ | refine And.intro (Or.inr rfl) ?_ | refine And.intro (Nat.le_of_ble_eq_true rfl) ?_ | refine And.intro (And.intro rfl rfl) ?_ | exact rfl
      · skip
        exact absurd h2 h3
    · try simp only [if_neg h2]
      repeat' first | refine And.intro rfl ?_ | refine And.intro (Or.inl rfl) ?_ | refine And.intro (Or.inr rfl) ?_ | refine And.intro (Nat.le_of_ble_eq_true rfl) ?_ | refine And.intro (And.intro rfl rfl) ?_ | exact rfl
      refine zs_67_21 ?_
      repeat' first | refine And.intro rfl ?_ | refine And.intro (Or.inl rfl) ?_ | refine And.intro (Or.inr rfl) ?_ | refine And.intro (Nat.le_of_ble_eq_true rfl) ?_ | refine And.intro (And.intro rfl rfl) ?_ | exact rfl
      refine And.intro (fun (h6 : ¬ z = 0) => ?_) (fun (h6 : ¬ (¬ z = 0)) => ?_)
      · skip
        exact absurd h6 h2
      · skip
        repeat' first | refine And.intro rfl ?_ | refine And.intro (Or.inl rfl) ?_ | refine And.intro (Or.inr rfl) ?_ | refine And.intro (Nat.le_of_ble_eq_true rfl) ?_ | refine And.intro (And.intro rfl rfl) ?_ | exact rfl
        refine zs_67_34 ?_
        repeat' first | refine And.intro rfl ?_ | refine And.intro (Or.inl rfl) ?_ | refine And.intro (Or.inr rfl) ?_ | refine And.intro (Nat.le_of_ble_eq_true rfl) ?_ | refine And.intro (And.intro rfl rfl) ?_ | exact rfl
        refine And.intro (fun (h7 : (x - 1) < 0) => ?_) (fun (h7 : ¬ ((x - 1) < 0)) => ?_)
        · try simp only [if_pos h7]
          refine zs_67_46 ?_
          repeat' first | refine And.intro rfl ?_ | refine And.intro (Or.inl rfl) ?_ | refine And.intro (Or.inr rfl) ?_ | refine And.intro (Nat.le_of_ble_eq_true rfl) ?_ | refine And.intro (And.intro rfl rfl) ?_ | exact rfl
        · try simp only [if_neg h7]
          repeat' first | refine And.intro rfl ?_ | refine And.intro (Or.inl rfl) ?_ | refine And.intro (Or.inr rfl) ?_ | refine And.intro (Nat.le_of_ble_eq_true rfl) ?_ | refine And.intro (And.intro rfl rfl) ?_ | exact rfl
          refine And.intro (fun (h8 : 0 ≤ y) => ?_) (fun (h8 : ¬ (0 ≤ y)) => ?_)
          · try simp only [if_pos h8]
            refine zs_67_49 ?_
            repeat' first | refine And.intro rfl ?_ | refine And.intro (Or.inl rfl) ?_ | refine And.intro (Or.inr rfl) ?_ | refine And.intro (Nat.le_of_ble_eq_true rfl) ?_ | refine And.intro (And.intro rfl rfl) ?_ | exact rfl
            refine Exists.intro _ (Exists.intro _ (And.intro (zr_X4_valueAt F I J d (x - 1) y 0) ?_))
            repeat' first | refine And.intro rfl ?_ | refine And.intro (Or.inl rfl) ?_ | refine And.intro (Or.inr rfl) ?_ | refine And.intro (Nat.le_of_ble_eq_true rfl) ?_ | refine And.intro (And.intro rfl rfl) ?_ | exact rfl
            refine Exists.intro _ (Exists.intro _ (And.intro (zr_X4_stepBy F I J d (x - 1) y 0 z) ?_))
            repeat' first | refine And.intro rfl ?_ | refine And.intro (Or.inl rfl) ?_ | refine And.intro (Or.inr rfl) ?_ | refine And.intro (Nat.le_of_ble_eq_true rfl) ?_ | refine And.intro (And.intro rfl rfl) ?_ | exact rfl
            refine Exists.intro _ (Exists.intro _ (And.intro (zr_X4_valueAt F I J d (x - 1) y 1) ?_))
            repeat' first | refine And.intro rfl ?_ | refine And.intro (Or.inl rfl) ?_ | refine And.intro (Or.inr rfl) ?_ | refine And.intro (Nat.le_of_ble_eq_true rfl) ?_ | refine And.intro (And.intro rfl rfl) ?_ | exact rfl
            refine Exists.intro _ (Exists.intro _ (And.intro (zr_X4_stepBy F I J d (x - 1) y 1 z) ?_))
            repeat' first | refine And.intro rfl ?_ | refine And.intro (Or.inl rfl) ?_ | refine And.intro (Or.inr rfl) ?_ | refine And.intro (Nat.le_of_ble_eq_true rfl) ?_ | refine And.intro (And.intro rfl rfl) ?_ | exact rfl
            refine Exists.intro _ (Exists.intro _ (And.intro (zr_min F I J d ((zv_X4_valueAt I (x - 1) y 0) + (zv_X4_stepBy I (x - 1) y 0 z)) ((zv_X4_valueAt I (x - 1) y 1) + (zv_X4_stepBy I (x - 1) y 1 z))) ?_))
            repeat' first | refine And.intro rfl ?_ | refine And.intro (Or.inl rfl) ?_ | refine And.intro (Or.inr rfl) ?_ | refine And.intro (Nat.le_of_ble_eq_true rfl) ?_ | refine And.intro (And.intro rfl rfl) ?_ | exact rfl
          · try simp only [if_neg h8]
            repeat' first | refine And.intro rfl ?_ | refine And.intro (Or.inl rfl) ?_ | refine And.intro (Or.inr rfl) ?_ | refine And.intro (Nat.le_of_ble_eq_true rfl) ?_ | refine And.intro (And.intro rfl rfl) ?_ | exact rfl
            refine zs_67_46 ?_
            repeat' first | refine And.intro rfl ?_ | refine And.intro (Or.inl rfl) ?_ | refine And.intro (Or.inr rfl) ?_ | refine And.intro (Nat.le_of_ble_eq_true rfl) ?_ | refine And.intro (And.intro rfl rfl) ?_ | exact rfl
  · try simp only [if_neg h1]
    repeat' first | refine And.intro rfl ?_ | refine And.intro (Or.inl rfl) ?_ | refine And.intro (Or.inr rfl) ?_ | refine And.intro (Nat.le_of_ble_eq_true rfl) ?_ | refine And.intro (And.intro rfl rfl) ?_ | exact rfl
    refine And.intro (fun (h9 : ¬ y = 0) => ?_) (fun (h9 : ¬ (¬ y = 0)) => ?_)
    · try simp only [if_pos h9]
      refine zs_67_10 ?_
      repeat' first | refine And.intro rfl ?_ | refine And.intro (Or.inl rfl) ?_ | refine And.intro (Or.inr rfl) ?_ | refine And.intro (Nat.le_of_ble_eq_true rfl) ?_ | refine And.intro (And.intro rfl rfl) ?_ | exact rfl
      refine And.intro (fun (h10 : ¬ z = 0) => ?_) (fun (h10 : ¬ (¬ z = 0)) => ?_)
      · try simp only [if_pos h10]
        refine zs_67_20 ?_
        repeat' first | refine And.intro rfl ?_ | refine And.intro (Or.inl rfl) ?_ | refine And.intro (Or.inr rfl) ?_ | refine And.intro (Nat.le_of_ble_eq_true rfl) ?_ | refine And.intro (And.intro rfl rfl) ?_ | exact rfl
        refine zs_67_21 ?_
        repeat' first | refine And.intro rfl ?_ | refine And.intro (Or.inl rfl) ?_ | refine And.intro (Or.inr rfl) ?_ | refine And.intro (Nat.le_of_ble_eq_true rfl) ?_ | refine And.intro (And.intro rfl rfl) ?_ | exact rfl
        refine And.intro (fun (h11 : ¬ z = 0) => ?_) (fun (h11 : ¬ (¬ z = 0)) => ?_)
        · skip
          refine zs_67_31 ?_
          repeat' first | refine And.intro rfl ?_ | refine And.intro (Or.inl rfl) ?_ | refine And.intro (Or.inr rfl) ?_ | refine And.intro (Nat.le_of_ble_eq_true rfl) ?_ | refine And.intro (And.intro rfl rfl) ?_ | exact rfl
          refine zs_67_34 ?_
          repeat' first | refine And.intro rfl ?_ | refine And.intro (Or.inl rfl) ?_ | refine And.intro (Or.inr rfl) ?_ | refine And.intro (Nat.le_of_ble_eq_true rfl) ?_ | refine And.intro (And.intro rfl rfl) ?_ | exact rfl
          refine And.intro (fun (h12 : x < 0) => ?_) (fun (h12 : ¬ (x < 0)) => ?_)
          · try simp only [if_pos h12]
            refine zs_67_46 ?_
            repeat' first | refine And.intro rfl ?_ | refine And.intro (Or.inl rfl) ?_ | refine And.intro (Or.inr rfl) ?_ | refine And.intro (Nat.le_of_ble_eq_true rfl) ?_ | refine And.intro (And.intro rfl rfl) ?_ | exact rfl
          · try simp only [if_neg h12]
            repeat' first | refine And.intro rfl ?_ | refine And.intro (Or.inl rfl) ?_ | refine And.intro (Or.inr rfl) ?_ | refine And.intro (Nat.le_of_ble_eq_true rfl) ?_ | refine And.intro (And.intro rfl rfl) ?_ | exact rfl
            refine And.intro (fun (h13 : 0 ≤ (y - 1)) => ?_) (fun (h13 : ¬ (0 ≤ (y - 1))) => ?_)
            · try simp only [if_pos h13]
              refine zs_67_49 ?_
              repeat' first | refine And.intro rfl ?_ | refine And.intro (Or.inl rfl) ?_ | refine And.intro (Or.inr rfl) ?_ | refine And.intro (Nat.le_of_ble_eq_true rfl) ?_ | refine And.intro (And.intro rfl rfl) ?_ | exact rfl
              refine Exists.intro _ (Exists.intro _ (And.intro (zr_X4_valueAt F I J d x (y - 1) 0) ?_))
              repeat' first | refine And.intro rfl ?_ | refine And.intro (Or.inl rfl) ?_ | refine And.intro (Or.inr rfl) ?_ | refine And.intro (Nat.le_of_ble_eq_true rfl) ?_ | refine And.intro (And.intro rfl rfl) ?_ | exact rfl
              refine Exists.intro _ (Exists.intro _ (And.intro (zr_X4_stepBy F I J d x (y - 1) 0 z) ?_))
              repeat' first | refine And.intro rfl ?_ | refine And.intro (Or.inl rfl) ?_ | refine And.intro (Or.inr rfl) ?_ | refine And.intro (Nat.le_of_ble_eq_true rfl) ?_ | refine And.intro (And.intro rfl rfl) ?_ | exact rfl
              refine Exists.intro _ (Exists.intro _ (And.intro (zr_X4_valueAt F I J d x (y - 1) 1) ?_))
              repeat' first | refine And.intro rfl ?_ | refine And.intro (Or.inl rfl) ?_ | refine And.intro (Or.inr rfl) ?_ | refine And.intro (Nat.le_of_ble_eq_true rfl) ?_ | refine And.intro (And.intro rfl rfl) ?_ | exact rfl
              refine Exists.intro _ (Exists.intro _ (And.intro (zr_X4_stepBy F I J d x (y - 1) 1 z) ?_))
              repeat' first | refine And.intro rfl ?_ | refine And.intro (Or.inl rfl) ?_ | refine And.intro (Or.inr rfl) ?_ | refine And.intro (Nat.le_of_ble_eq_true rfl) ?_ | refine And.intro (And.intro rfl rfl) ?_ | exact rfl
              refine Exists.intro _ (Exists.intro _ (And.intro (zr_min F I J d ((zv_X4_valueAt I x (y - 1) 0) + (zv_X4_stepBy I x (y - 1) 0 z)) ((zv_X4_valueAt I x (y - 1) 1) + (zv_X4_stepBy I x (y - 1) 1 z))) ?_))
              repeat' first | refine And.intro rfl ?_ | refine And.intro (Or.inl rfl) ?_ | refine And.intro (Or.inr rfl) ?_ | refine And.intro (Nat.le_of_ble_eq_true rfl) ?_ | refine And.intro (And.intro rfl rfl) ?_ | exact rfl
            · try simp only [if_neg h13]
              repeat' first | refine And.intro rfl ?_ | refine And.intro (Or.inl rfl) ?_ | refine And.intro (Or.inr rfl) ?_ | refine And.intro (Nat.le_of_ble_eq_true rfl) ?_ | refine And.intro (And.intro rfl rfl) ?_ | exact rfl
              refine zs_67_46 ?_
              repeat' first | refine And.intro rfl ?_ | refine And.intro (Or.inl rfl) ?_ | refine And.intro (Or.inr rfl) ?_ | refine And.intro (Nat.le_of_ble_eq_true rfl) ?_ | refine And.intro (And.intro rfl rfl) ?_ | exact rfl
        · skip
          exact absurd h10 h11
      · try simp only [if_neg h10]
        repeat' first | refine And.intro rfl ?_ | refine And.intro (Or.inl rfl) ?_ | refine And.intro (Or.inr rfl) ?_ | refine And.intro (Nat.le_of_ble_eq_true rfl) ?_ | refine And.intro (And.intro rfl rfl) ?_ | exact rfl
        refine zs_67_21 ?_
        repeat' first | refine And.intro rfl ?_ | refine And.intro (Or.inl rfl) ?_ | refine And.intro (Or.inr rfl) ?_ | refine And.intro (Nat.le_of_ble_eq_true rfl) ?_ | refine And.intro (And.intro rfl rfl) ?_ | exact rfl
        refine And.intro (fun (h14 : ¬ z = 0) => ?_) (fun (h14 : ¬ (¬ z = 0)) => ?_)
        · skip
          exact absurd h14 h10
        · skip
          repeat' first | refine And.intro rfl ?_ | refine And.intro (Or.inl rfl) ?_ | refine And.intro (Or.inr rfl) ?_ | refine And.intro (Nat.le_of_ble_eq_true rfl) ?_ | refine And.intro (And.intro rfl rfl) ?_ | exact rfl
          refine zs_67_34 ?_
          repeat' first | refine And.intro rfl ?_ | refine And.intro (Or.inl rfl) ?_ | refine And.intro (Or.inr rfl) ?_ | refine And.intro (Nat.le_of_ble_eq_true rfl) ?_ | refine And.intro (And.intro rfl rfl) ?_ | exact rfl
          refine And.intro (fun (h15 : (x - 1) < 0) => ?_) (fun (h15 : ¬ ((x - 1) < 0)) => ?_)
          · try simp only [if_pos h15]
            refine zs_67_46 ?_
            repeat' first | refine And.intro rfl ?_ | refine And.intro (Or.inl rfl) ?_ | refine And.intro (Or.inr rfl) ?_ | refine And.intro (Nat.le_of_ble_eq_true rfl) ?_ | refine And.intro (And.intro rfl rfl) ?_ | exact rfl
          · try simp only [if_neg h15]
            repeat' first | refine And.intro rfl ?_ | refine And.intro (Or.inl rfl) ?_ | refine And.intro (Or.inr rfl) ?_ | refine And.intro (Nat.le_of_ble_eq_true rfl) ?_ | refine And.intro (And.intro rfl rfl) ?_ | exact rfl
            refine And.intro (fun (h16 : 0 ≤ y) => ?_) (fun (h16 : ¬ (0 ≤ y)) => ?_)
            · try simp only [if_pos h16]
              refine zs_67_49 ?_
              repeat' first | refine And.intro rfl ?_ | refine And.intro (Or.inl rfl) ?_ | refine And.intro (Or.inr rfl) ?_ | refine And.intro (Nat.le_of_ble_eq_true rfl) ?_ | refine And.intro (And.intro rfl rfl) ?_ | exact rfl
              refine Exists.intro _ (Exists.intro _ (And.intro (zr_X4_valueAt F I J d (x - 1) y 0) ?_))
              repeat' first | refine And.intro rfl ?_ | refine And.intro (Or.inl rfl) ?_ | refine And.intro (Or.inr rfl) ?_ | refine And.intro (Nat.le_of_ble_eq_true rfl) ?_ | refine And.intro (And.intro rfl rfl) ?_ | exact rfl
              refine Exists.intro _ (Exists.intro _ (And.intro (zr_X4_stepBy F I J d (x - 1) y 0 z) ?_))
              repeat' first | refine And.intro rfl ?_ | refine And.intro (Or.inl rfl) ?_ | refine And.intro (Or.inr rfl) ?_ | refine And.intro (Nat.le_of_ble_eq_true rfl) ?_ | refine And.intro (And.intro rfl rfl) ?_ | exact rfl
              refine Exists.intro _ (Exists.intro _ (And.intro (zr_X4_valueAt F I J d (x - 1) y 1) ?_))
              repeat' first | refine And.intro rfl ?_ | refine And.intro (Or.inl rfl) ?_ | refine And.intro (Or.inr rfl) ?_ | refine And.intro (Nat.le_of_ble_eq_true rfl) ?_ | refine And.intro (And.intro rfl rfl) ?_ | exact rfl
              refine Exists.intro _ (Exists.intro _ (And.intro (zr_X4_stepBy F I J d (x - 1) y 1 z) ?_))
              repeat' first | refine And.intro rfl ?_ | refine And.intro (Or.inl rfl) ?_ | refine And.intro (Or.inr rfl) ?_ | refine And.intro (Nat.le_of_ble_eq_true rfl) ?_ | refine And.intro (And.intro rfl rfl) ?_ | exact rfl
              refine Exists.intro _ (Exists.intro _ (And.intro (zr_min F I J d ((zv_X4_valueAt I (x - 1) y 0) + (zv_X4_stepBy I (x - 1) y 0 z)) ((zv_X4_valueAt I (x - 1) y 1) + (zv_X4_stepBy I (x - 1) y 1 z))) ?_))
              repeat' first | refine And.intro rfl ?_ | refine And.intro (Or.inl rfl) ?_ | refine And.intro (Or.inr rfl) ?_ | refine And.intro (Nat.le_of_ble_eq_true rfl) ?_ | refine And.intro (And.intro rfl rfl) ?_ | exact rfl
            · try simp only [if_neg h16]
              repeat' first | refine And.intro rfl ?_ | refine And.intro (Or.inl rfl) ?_ | refine And.intro (Or.inr rfl) ?_ | refine And.intro (Nat.le_of_ble_eq_true rfl) ?_ | refine And.intro (And.intro rfl rfl) ?_ | exact rfl
              refine zs_67_46 ?_
              repeat' first | refine And.intro rfl ?_ | refine And.intro (Or.inl rfl) ?_ | refine And.intro (Or.inr rfl) ?_ | refine And.intro (Nat.le_of_ble_eq_true rfl) ?_ | refine And.intro (And.intro rfl rfl) ?_ | exact rfl
    · try simp only [if_neg h9]
      repeat' first | refine And.intro rfl ?_ | refine And.intro (Or.inl rfl) ?_ | refine And.intro (Or.inr rfl) ?_ | refine And.intro (Nat.le_of_ble_eq_true rfl) ?_ | refine And.intro (And.intro rfl rfl) ?_ | exact rfl
def zv_X4_reachedWith (I : Nat → Nat → Int32) (x : Int32) (y : Int32) (z : Int32) : Int32 := if ¬ x = 0 then (zv_X4_valueAt I z y 1) else (zv_X4_valueAt I y z 0)
theorem zr_X4_reachedWith (F : zz_F) (I : Nat → Nat → Int32) (J : Nat → Nat → Int64) (d : Nat) (x : Int32) (y : Int32) (z : Int32) : zz_run (d+1) 69 0 [some (.ref 41), some (.int (x)), some (.int (y)), some (.int (z))] [] (zz_S F I J) (some (.int (zv_X4_reachedWith I x y z))) (zz_S F (I) (J)) := by
  unfold zv_X4_reachedWith
  refine zs_69_0 ?_
  repeat' first | refine And.intro rfl ?_ | refine And.intro (Or.inl rfl) ?_ | refine And.intro (Or.inr rfl) ?_ | refine And.intro (Nat.le_of_ble_eq_true rfl) ?_ | refine And.intro (And.intro rfl rfl) ?_ | exact rfl
  refine And.intro (fun (h1 : ¬ x = 0) => ?_) (fun (h1 : ¬ (¬ x = 0)) => ?_)
  · try simp only [if_pos h1]
    refine zs_69_14 ?_
    repeat' first | refine And.intro rfl ?_ | refine And.intro (Or.inl rfl) ?_ | refine And.intro (Or.inr rfl) ?_ | refine And.intro (Nat.le_of_ble_eq_true rfl) ?_ | refine And.intro (And.intro rfl rfl) ?_ | exact rfl
    refine Exists.intro _ (Exists.intro _ (And.intro (zr_X4_valueAt F I J d z y 1) ?_))
    repeat' first | refine And.intro rfl ?_ | refine And.intro (Or.inl rfl) ?_ | refine And.intro (Or.inr rfl) ?_ | refine And.intro (Nat.le_of_ble_eq_true rfl) ?_ | refine And.intro (And.intro rfl rfl) ?_ | exact rfl
    refine zs_69_21 ?_
    repeat' first | refine And.intro rfl ?_ | refine And.intro (Or.inl rfl) ?_ | refine And.intro (Or.inr rfl) ?_ | refine And.intro (Nat.le_of_ble_eq_true rfl) ?_ | refine And.intro (And.intro rfl rfl) ?_ | exact rfl
  · try simp only [if_neg h1]
    repeat' first | refine And.intro rfl ?_ | refine And.intro (Or.inl rfl) ?_ | refine And.intro (Or.inr rfl) ?_ | refine And.intro (Nat.le_of_ble_eq_true rfl) ?_ | refine And.intro (And.intro rfl rfl) ?_ | exact rfl
    refine Exists.intro _ (Exists.intro _ (And.intro (zr_X4_valueAt F I J d y z 0) ?_))
    repeat' first | refine And.intro rfl ?_ | refine And.intro (Or.inl rfl) ?_ | refine And.intro (Or.inr rfl) ?_ | refine And.intro (Nat.le_of_ble_eq_true rfl) ?_ | refine And.intro (And.intro rfl rfl) ?_ | exact rfl
    refine zs_69_21 ?_
    repeat' first | refine And.intro rfl ?_ | refine And.intro (Or.inl rfl) ?_ | refine And.intro (Or.inr rfl) ?_ | refine And.intro (Nat.le_of_ble_eq_true rfl) ?_ | refine And.intro (And.intro rfl rfl) ?_ | exact rfl
def zv_X5_cheersIn (I : Nat → Nat → Int32) (x : Int32) : Int32 := if ¬ x = 0 then (I 8 8) else (I 8 7)
theorem zr_X5_cheersIn (F : zz_F) (I : Nat → Nat → Int32) (J : Nat → Nat → Int64) (d : Nat) (x : Int32) : zz_run (d) 80 0 [some (.ref 8), some (.int (x))] [] (zz_S F I J) (some (.int (zv_X5_cheersIn I x))) (zz_S F (I) (J)) := by
  unfold zv_X5_cheersIn
  refine zs_80_0 ?_
  repeat' first | refine And.intro rfl ?_ | refine And.intro (Or.inl rfl) ?_ | refine And.intro (Or.inr rfl) ?_ | refine And.intro (Nat.le_of_ble_eq_true rfl) ?_ | refine And.intro (And.intro rfl rfl) ?_ | exact rfl
  refine And.intro (fun (h1 : ¬ x = 0) => ?_) (fun (h1 : ¬ (¬ x = 0)) => ?_)
  · try simp only [if_pos h1]
    refine zs_80_11 ?_
    repeat' first | refine And.intro rfl ?_ | refine And.intro (Or.inl rfl) ?_ | refine And.intro (Or.inr rfl) ?_ | refine And.intro (Nat.le_of_ble_eq_true rfl) ?_ | refine And.intro (And.intro rfl rfl) ?_ | exact rfl
    refine zs_80_15 ?_
    repeat' first | refine And.intro rfl ?_ | refine And.intro (Or.inl rfl) ?_ | refine And.intro (Or.inr rfl) ?_ | refine And.intro (Nat.le_of_ble_eq_true rfl) ?_ | refine And.intro (And.intro rfl rfl) ?_ | exact rfl
  · try simp only [if_neg h1]
    repeat' first | refine And.intro rfl ?_ | refine And.intro (Or.inl rfl) ?_ | refine And.intro (Or.inr rfl) ?_ | refine And.intro (Nat.le_of_ble_eq_true rfl) ?_ | refine And.intro (And.intro rfl rfl) ?_ | exact rfl
    refine zs_80_15 ?_
    repeat' first | refine And.intro rfl ?_ | refine And.intro (Or.inl rfl) ?_ | refine And.intro (Or.inr rfl) ?_ | refine And.intro (Nat.le_of_ble_eq_true rfl) ?_ | refine And.intro (And.intro rfl rfl) ?_ | exact rfl
def zv_X5_stateOf (I : Nat → Nat → Int32) (x : Int32) : Int32 := if ((I 8 3) &&& (1 <<< (x &&& 31))) = 0 then (if ((I 8 4) &&& (1 <<< (x &&& 31))) = 0 then 0 else 2) else 1
theorem zr_X5_stateOf (F : zz_F) (I : Nat → Nat → Int32) (J : Nat → Nat → Int64) (d : Nat) (x : Int32) : zz_run (d) 81 0 [some (.ref 8), some (.int (x)), none] [] (zz_S F I J) (some (.int (zv_X5_stateOf I x))) (zz_S F (I) (J)) := by
  unfold zv_X5_stateOf
  refine zs_81_0 ?_
  repeat' first | refine And.intro rfl ?_ | refine And.intro (Or.inl rfl) ?_ | refine And.intro (Or.inr rfl) ?_ | refine And.intro (Nat.le_of_ble_eq_true rfl) ?_ | refine And.intro (And.intro rfl rfl) ?_ | exact rfl
  refine And.intro (fun (h1 : ((I 8 3) &&& (1 <<< (x &&& 31))) = 0) => ?_) (fun (h1 : ¬ (((I 8 3) &&& (1 <<< (x &&& 31))) = 0)) => ?_)
  · try simp only [if_pos h1]
    refine zs_81_15 ?_
    repeat' first | refine And.intro rfl ?_ | refine And.intro (Or.inl rfl) ?_ | refine And.intro (Or.inr rfl) ?_ | refine And.intro (Nat.le_of_ble_eq_true rfl) ?_ | refine And.intro (And.intro rfl rfl) ?_ | exact rfl
    refine And.intro (fun (h2 : ((I 8 4) &&& (1 <<< (x &&& 31))) = 0) => ?_) (fun (h2 : ¬ (((I 8 4) &&& (1 <<< (x &&& 31))) = 0)) => ?_)
    · try simp only [if_pos h2]
      refine zs_81_28 ?_
      repeat' first | refine And.intro rfl ?_ | refine And.intro (Or.inl rfl) ?_ | refine And.intro (Or.inr rfl) ?_ | refine And.intro (Nat.le_of_ble_eq_true rfl) ?_ | refine And.intro (And.intro rfl rfl) ?_ | exact rfl
      refine zs_81_29 ?_
      repeat' first | refine And.intro rfl ?_ | refine And.intro (Or.inl rfl) ?_ | refine And.intro (Or.inr rfl) ?_ | refine And.intro (Nat.le_of_ble_eq_true rfl) ?_ | refine And.intro (And.intro rfl rfl) ?_ | exact rfl
    · try simp only [if_neg h2]
      repeat' first | refine And.intro rfl ?_ | refine And.intro (Or.inl rfl) ?_ | refine And.intro (Or.inr rfl) ?_ | refine And.intro (Nat.le_of_ble_eq_true rfl) ?_ | refine And.intro (And.intro rfl rfl) ?_ | exact rfl
      refine zs_81_29 ?_
      repeat' first | refine And.intro rfl ?_ | refine And.intro (Or.inl rfl) ?_ | refine And.intro (Or.inr rfl) ?_ | refine And.intro (Nat.le_of_ble_eq_true rfl) ?_ | refine And.intro (And.intro rfl rfl) ?_ | exact rfl
  · try simp only [if_neg h1]
    repeat' first | refine And.intro rfl ?_ | refine And.intro (Or.inl rfl) ?_ | refine And.intro (Or.inr rfl) ?_ | refine And.intro (Nat.le_of_ble_eq_true rfl) ?_ | refine And.intro (And.intro rfl rfl) ?_ | exact rfl
def zw_X6_forgetUndone (I : Nat → Nat → Int32)  : Nat → Nat → Int32 := zz_u I 9 5 0
theorem zr_X6_forgetUndone (F : zz_F) (I : Nat → Nat → Int32) (J : Nat → Nat → Int64) (d : Nat)  : zz_run (d) 91 0 [some (.ref 9)] [] (zz_S F I J) none (zz_S F (zw_X6_forgetUndone I) (J)) := by
  unfold zw_X6_forgetUndone
  refine zs_91_0 ?_
  repeat' first | refine And.intro rfl ?_ | refine And.intro (Or.inl rfl) ?_ | refine And.intro (Or.inr rfl) ?_ | refine And.intro (Nat.le_of_ble_eq_true rfl) ?_ | refine And.intro (And.intro rfl rfl) ?_ | exact rfl
def zv_X6_isShelved (I : Nat → Nat → Int32) (x : Int32) : Int32 := if x < 0 then 0 else (if 2 ≤ x then 0 else (if (I 12 x.toNatClampNeg) = 0 then 0 else 1))
theorem zr_X6_isShelved (F : zz_F) (I : Nat → Nat → Int32) (J : Nat → Nat → Int64) (d : Nat) (x : Int32) : zz_run (d) 93 0 [some (.ref 9), some (.int (x))] [] (zz_S F I J) (some (.int (zv_X6_isShelved I x))) (zz_S F (I) (J)) := by
  unfold zv_X6_isShelved
  refine zs_93_0 ?_
  repeat' first | refine And.intro rfl ?_ | refine And.intro (Or.inl rfl) ?_ | refine And.intro (Or.inr rfl) ?_ | refine And.intro (Nat.le_of_ble_eq_true rfl) ?_ | refine And.intro (And.intro rfl rfl) ?_ | exact rfl
  refine And.intro (fun (h1 : x < 0) => ?_) (fun (h1 : ¬ (x < 0)) => ?_)
  · try simp only [if_pos h1]
    refine zs_93_22 ?_
    repeat' first | refine And.intro rfl ?_ | refine And.intro (Or.inl rfl) ?_ | refine And.intro (Or.inr rfl) ?_ | refine And.intro (Nat.le_of_ble_eq_true rfl) ?_ | refine And.intro (And.intro rfl rfl) ?_ | exact rfl
    refine zs_93_23 ?_
    repeat' first | refine And.intro rfl ?_ | refine And.intro (Or.inl rfl) ?_ | refine And.intro (Or.inr rfl) ?_ | refine And.intro (Nat.le_of_ble_eq_true rfl) ?_ | refine And.intro (And.intro rfl rfl) ?_ | exact rfl
  · try simp only [if_neg h1]
    repeat' first | refine And.intro rfl ?_ | refine And.intro (Or.inl rfl) ?_ | refine And.intro (Or.inr rfl) ?_ | refine And.intro (Nat.le_of_ble_eq_true rfl) ?_ | refine And.intro (And.intro rfl rfl) ?_ | exact rfl
    refine And.intro (fun (h2 : 2 ≤ x) => ?_) (fun (h2 : ¬ (2 ≤ x)) => ?_)
    · try simp only [if_pos h2]
      refine zs_93_22 ?_
      repeat' first | refine And.intro rfl ?_ | refine And.intro (Or.inl rfl) ?_ | refine And.intro (Or.inr rfl) ?_ | refine And.intro (Nat.le_of_ble_eq_true rfl) ?_ | refine And.intro (And.intro rfl rfl) ?_ | exact rfl
      refine zs_93_23 ?_
      repeat' first | refine And.intro rfl ?_ | refine And.intro (Or.inl rfl) ?_ | refine And.intro (Or.inr rfl) ?_ | refine And.intro (Nat.le_of_ble_eq_true rfl) ?_ | refine And.intro (And.intro rfl rfl) ?_ | exact rfl
    · try simp only [if_neg h2]
      repeat' first | refine And.intro rfl ?_ | refine And.intro (Or.inl rfl) ?_ | refine And.intro (Or.inr rfl) ?_ | refine And.intro (Nat.le_of_ble_eq_true rfl) ?_ | refine And.intro (And.intro rfl rfl) ?_ | exact rfl
      refine And.intro (zz_vin (n := 2) h1 h2 (Nat.le_of_ble_eq_true rfl)) ?_
      repeat' first | refine And.intro rfl ?_ | refine And.intro (Or.inl rfl) ?_ | refine And.intro (Or.inr rfl) ?_ | refine And.intro (Nat.le_of_ble_eq_true rfl) ?_ | refine And.intro (And.intro rfl rfl) ?_ | exact rfl
      refine And.intro (fun (h3 : (I 12 x.toNatClampNeg) = 0) => ?_) (fun (h3 : ¬ ((I 12 x.toNatClampNeg) = 0)) => ?_)
      · try simp only [if_pos h3]
        refine zs_93_22 ?_
        repeat' first | refine And.intro rfl ?_ | refine And.intro (Or.inl rfl) ?_ | refine And.intro (Or.inr rfl) ?_ | refine And.intro (Nat.le_of_ble_eq_true rfl) ?_ | refine And.intro (And.intro rfl rfl) ?_ | exact rfl
        refine zs_93_23 ?_
        repeat' first | refine And.intro rfl ?_ | refine And.intro (Or.inl rfl) ?_ | refine And.intro (Or.inr rfl) ?_ | refine And.intro (Nat.le_of_ble_eq_true rfl) ?_ | refine And.intro (And.intro rfl rfl) ?_ | exact rfl
      · try simp only [if_neg h3]
        repeat' first | refine And.intro rfl ?_ | refine And.intro (Or.inl rfl) ?_ | refine And.intro (Or.inr rfl) ?_ | refine And.intro (Nat.le_of_ble_eq_true rfl) ?_ | refine And.intro (And.intro rfl rfl) ?_ | exact rfl
        refine zs_93_23 ?_
        repeat' first | refine And.intro rfl ?_ | refine And.intro (Or.inl rfl) ?_ | refine And.intro (Or.inr rfl) ?_ | refine And.intro (Nat.le_of_ble_eq_true rfl) ?_ | refine And.intro (And.intro rfl rfl) ?_ | exact rfl
theorem zb_X6_isShelved (I : Nat → Nat → Int32) (x : Int32) : zv_X6_isShelved I x = 0 ∨ zv_X6_isShelved I x = 1 := by
  unfold zv_X6_isShelved
  repeat' first | split | exact Or.inl rfl | exact Or.inr rfl
def zw_X8_begin (I : Nat → Nat → Int32)  : Nat → Nat → Int32 := zz_u (zz_u (zz_u (zz_u (zz_u (zz_u I 37 2 0) 37 3 0) 37 4 0) 37 5 0) 37 6 0) 37 7 1
theorem zr_X8_begin (F : zz_F) (I : Nat → Nat → Int32) (J : Nat → Nat → Int64) (d : Nat)  : zz_run (d) 98 0 [some (.ref 37)] [] (zz_S F I J) none (zz_S F (zw_X8_begin I) (J)) := by
  unfold zw_X8_begin
  refine zs_98_0 ?_
  repeat' first | refine And.intro rfl ?_ | refine And.intro (Or.inl rfl) ?_ | refine And.intro (Or.inr rfl) ?_ | refine And.intro (Nat.le_of_ble_eq_true rfl) ?_ | refine And.intro (And.intro rfl rfl) ?_ | exact rfl
def zv_X8_isThing (x : Int32) : Int32 := if x = 111 then 1 else (if x = 112 then 1 else (if x = 113 then 1 else (if x = 109 then 1 else (if x = 108 then 1 else (if ¬ x = 115 then 0 else 1)))))
theorem zr_X8_isThing (F : zz_F) (I : Nat → Nat → Int32) (J : Nat → Nat → Int64) (d : Nat) (x : Int32) : zz_run (d) 101 0 [some (.int (x))] [] (zz_S F I J) (some (.int (zv_X8_isThing x))) (zz_S F (I) (J)) := by
  unfold zv_X8_isThing
  refine zs_101_0 ?_
  repeat' first | refine And.intro rfl ?_ | refine And.intro (Or.inl rfl) ?_ | refine And.intro (Or.inr rfl) ?_ | refine And.intro (Nat.le_of_ble_eq_true rfl) ?_ | refine And.intro (And.intro rfl rfl) ?_ | exact rfl
  refine And.intro (fun (h1 : x = 111) => ?_) (fun (h1 : ¬ (x = 111)) => ?_)
  · try simp only [if_pos h1]
    refine zs_101_36 ?_
    repeat' first | refine And.intro rfl ?_ | refine And.intro (Or.inl rfl) ?_ | refine And.intro (Or.inr rfl) ?_ | refine And.intro (Nat.le_of_ble_eq_true rfl) ?_ | refine And.intro (And.intro rfl rfl) ?_ | exact rfl
    refine zs_101_41 ?_
    repeat' first | refine And.intro rfl ?_ | refine And.intro (Or.inl rfl) ?_ | refine And.intro (Or.inr rfl) ?_ | refine And.intro (Nat.le_of_ble_eq_true rfl) ?_ | refine And.intro (And.intro rfl rfl) ?_ | exact rfl
  · try simp only [if_neg h1]
    repeat' first | refine And.intro rfl ?_ | refine And.intro (Or.inl rfl) ?_ | refine And.intro (Or.inr rfl) ?_ | refine And.intro (Nat.le_of_ble_eq_true rfl) ?_ | refine And.intro (And.intro rfl rfl) ?_ | exact rfl
    refine And.intro (fun (h2 : x = 112) => ?_) (fun (h2 : ¬ (x = 112)) => ?_)
    · try simp only [if_pos h2]
      refine zs_101_36 ?_
      repeat' first | refine And.intro rfl ?_ | refine And.intro (Or.inl rfl) ?_ | refine And.intro (Or.inr rfl) ?_ | refine And.intro (Nat.le_of_ble_eq_true rfl) ?_ | refine And.intro (And.intro rfl rfl) ?_ | exact rfl
      refine zs_101_41 ?_
      repeat' first | refine And.intro rfl ?_ | refine And.intro (Or.inl rfl) ?_ | refine And.intro (Or.inr rfl) ?_ | refine And.intro (Nat.le_of_ble_eq_true rfl) ?_ | refine And.intro (And.intro rfl rfl) ?_ | exact rfl
    · try simp only [if_neg h2]
      repeat' first | refine And.intro rfl ?_ | refine And.intro (Or.inl rfl) ?_ | refine And.intro (Or.inr rfl) ?_ | refine And.intro (Nat.le_of_ble_eq_true rfl) ?_ | refine And.intro (And.intro rfl rfl) ?_ | exact rfl
      refine And.intro (fun (h3 : x = 113) => ?_) (fun (h3 : ¬ (x = 113)) => ?_)
      · try simp only [if_pos h3]
        refine zs_101_36 ?_
        repeat' first | refine And.intro rfl ?_ | refine And.intro (Or.inl rfl) ?_ | refine And.intro (Or.inr rfl) ?_ | refine And.intro (Nat.le_of_ble_eq_true rfl) ?_ | refine And.intro (And.intro rfl rfl) ?_ | exact rfl
        refine zs_101_41 ?_
        repeat' first | refine And.intro rfl ?_ | refine And.intro (Or.inl rfl) ?_ | refine And.intro (Or.inr rfl) ?_ | refine And.intro (Nat.le_of_ble_eq_true rfl) ?_ | refine And.intro (And.intro rfl rfl) ?_ | exact rfl
      · try simp only [if_neg h3]
        repeat' first | refine And.intro rfl ?_ | refine And.intro (Or.inl rfl) ?_ | refine And.intro (Or.inr rfl) ?_ | refine And.intro (Nat.le_of_ble_eq_true rfl) ?_ | refine And.intro (And.intro rfl rfl) ?_ | exact rfl
        refine And.intro (fun (h4 : x = 109) => ?_) (fun (h4 : ¬ (x = 109)) => ?_)
        · try simp only [if_pos h4]
          refine zs_101_36 ?_
          repeat' first | refine And.intro rfl ?_ | refine And.intro (Or.inl rfl) ?_ | refine And.intro (Or.inr rfl) ?_ | refine And.intro (Nat.le_of_ble_eq_true rfl) ?_ | refine And.intro (And.intro rfl rfl) ?_ | exact rfl
          refine zs_101_41 ?_
          repeat' first | refine And.intro rfl ?_ | refine And.intro (Or.inl rfl) ?_ | refine And.intro (Or.inr rfl) ?_ | refine And.intro (Nat.le_of_ble_eq_true rfl) ?_ | refine And.intro (And.intro rfl rfl) ?_ | exact rfl
        · try simp only [if_neg h4]
          repeat' first | refine And.intro rfl ?_ | refine And.intro (Or.inl rfl) ?_ | refine And.intro (Or.inr rfl) ?_ | refine And.intro (Nat.le_of_ble_eq_true rfl) ?_ | refine And.intro (And.intro rfl rfl) ?_ | exact rfl
          refine And.intro (fun (h5 : x = 108) => ?_) (fun (h5 : ¬ (x = 108)) => ?_)
          · try simp only [if_pos h5]
            refine zs_101_36 ?_
            repeat' first | refine And.intro rfl ?_ | refine And.intro (Or.inl rfl) ?_ | refine And.intro (Or.inr rfl) ?_ | refine And.intro (Nat.le_of_ble_eq_true rfl) ?_ | refine And.intro (And.intro rfl rfl) ?_ | exact rfl
            refine zs_101_41 ?_
            repeat' first | refine And.intro rfl ?_ | refine And.intro (Or.inl rfl) ?_ | refine And.intro (Or.inr rfl) ?_ | refine And.intro (Nat.le_of_ble_eq_true rfl) ?_ | refine And.intro (And.intro rfl rfl) ?_ | exact rfl
          · try simp only [if_neg h5]
            repeat' first | refine And.intro rfl ?_ | refine And.intro (Or.inl rfl) ?_ | refine And.intro (Or.inr rfl) ?_ | refine And.intro (Nat.le_of_ble_eq_true rfl) ?_ | refine And.intro (And.intro rfl rfl) ?_ | exact rfl
            refine And.intro (fun (h6 : ¬ x = 115) => ?_) (fun (h6 : ¬ (¬ x = 115)) => ?_)
            · try simp only [if_pos h6]
              refine zs_101_40 ?_
              repeat' first | refine And.intro rfl ?_ | refine And.intro (Or.inl rfl) ?_ | refine And.intro (Or.inr rfl) ?_ | refine And.intro (Nat.le_of_ble_eq_true rfl) ?_ | refine And.intro (And.intro rfl rfl) ?_ | exact rfl
              refine zs_101_41 ?_
              repeat' first | refine And.intro rfl ?_ | refine And.intro (Or.inl rfl) ?_ | refine And.intro (Or.inr rfl) ?_ | refine And.intro (Nat.le_of_ble_eq_true rfl) ?_ | refine And.intro (And.intro rfl rfl) ?_ | exact rfl
            · try simp only [if_neg h6]
              repeat' first | refine And.intro rfl ?_ | refine And.intro (Or.inl rfl) ?_ | refine And.intro (Or.inr rfl) ?_ | refine And.intro (Nat.le_of_ble_eq_true rfl) ?_ | refine And.intro (And.intro rfl rfl) ?_ | exact rfl
              refine zs_101_36 ?_
              repeat' first | refine And.intro rfl ?_ | refine And.intro (Or.inl rfl) ?_ | refine And.intro (Or.inr rfl) ?_ | refine And.intro (Nat.le_of_ble_eq_true rfl) ?_ | refine And.intro (And.intro rfl rfl) ?_ | exact rfl
              refine zs_101_41 ?_
              repeat' first | refine And.intro rfl ?_ | refine And.intro (Or.inl rfl) ?_ | refine And.intro (Or.inr rfl) ?_ | refine And.intro (Nat.le_of_ble_eq_true rfl) ?_ | refine And.intro (And.intro rfl rfl) ?_ | exact rfl
theorem zb_X8_isThing (x : Int32) : zv_X8_isThing x = 0 ∨ zv_X8_isThing x = 1 := by
  unfold zv_X8_isThing
  repeat' first | split | exact Or.inl rfl | exact Or.inr rfl
def zv_X8_isDigit (x : Int32) : Int32 := if x < 48 then 0 else (if 57 < x then 0 else 1)
theorem zr_X8_isDigit (F : zz_F) (I : Nat → Nat → Int32) (J : Nat → Nat → Int64) (d : Nat) (x : Int32) : zz_run (d) 102 0 [some (.int (x))] [] (zz_S F I J) (some (.int (zv_X8_isDigit x))) (zz_S F (I) (J)) := by
  unfold zv_X8_isDigit
  refine zs_102_0 ?_
  repeat' first | refine And.intro rfl ?_ | refine And.intro (Or.inl rfl) ?_ | refine And.intro (Or.inr rfl) ?_ | refine And.intro (Nat.le_of_ble_eq_true rfl) ?_ | refine And.intro (And.intro rfl rfl) ?_ | exact rfl
  refine And.intro (fun (h1 : x < 48) => ?_) (fun (h1 : ¬ (x < 48)) => ?_)
  · try simp only [if_pos h1]
    refine zs_102_16 ?_
    repeat' first | refine And.intro rfl ?_ | refine And.intro (Or.inl rfl) ?_ | refine And.intro (Or.inr rfl) ?_ | refine And.intro (Nat.le_of_ble_eq_true rfl) ?_ | refine And.intro (And.intro rfl rfl) ?_ | exact rfl
    refine zs_102_17 ?_
    repeat' first | refine And.intro rfl ?_ | refine And.intro (Or.inl rfl) ?_ | refine And.intro (Or.inr rfl) ?_ | refine And.intro (Nat.le_of_ble_eq_true rfl) ?_ | refine And.intro (And.intro rfl rfl) ?_ | exact rfl
  · try simp only [if_neg h1]
    repeat' first | refine And.intro rfl ?_ | refine And.intro (Or.inl rfl) ?_ | refine And.intro (Or.inr rfl) ?_ | refine And.intro (Nat.le_of_ble_eq_true rfl) ?_ | refine And.intro (And.intro rfl rfl) ?_ | exact rfl
    refine And.intro (fun (h2 : 57 < x) => ?_) (fun (h2 : ¬ (57 < x)) => ?_)
    · try simp only [if_pos h2]
      refine zs_102_16 ?_
      repeat' first | refine And.intro rfl ?_ | refine And.intro (Or.inl rfl) ?_ | refine And.intro (Or.inr rfl) ?_ | refine And.intro (Nat.le_of_ble_eq_true rfl) ?_ | refine And.intro (And.intro rfl rfl) ?_ | exact rfl
      refine zs_102_17 ?_
      repeat' first | refine And.intro rfl ?_ | refine And.intro (Or.inl rfl) ?_ | refine And.intro (Or.inr rfl) ?_ | refine And.intro (Nat.le_of_ble_eq_true rfl) ?_ | refine And.intro (And.intro rfl rfl) ?_ | exact rfl
    · try simp only [if_neg h2]
      repeat' first | refine And.intro rfl ?_ | refine And.intro (Or.inl rfl) ?_ | refine And.intro (Or.inr rfl) ?_ | refine And.intro (Nat.le_of_ble_eq_true rfl) ?_ | refine And.intro (And.intro rfl rfl) ?_ | exact rfl
      refine zs_102_17 ?_
      repeat' first | refine And.intro rfl ?_ | refine And.intro (Or.inl rfl) ?_ | refine And.intro (Or.inr rfl) ?_ | refine And.intro (Nat.le_of_ble_eq_true rfl) ?_ | refine And.intro (And.intro rfl rfl) ?_ | exact rfl
theorem zb_X8_isDigit (x : Int32) : zv_X8_isDigit x = 0 ∨ zv_X8_isDigit x = 1 := by
  unfold zv_X8_isDigit
  repeat' first | split | exact Or.inl rfl | exact Or.inr rfl
def zv_X8_lengthens (I : Nat → Nat → Int32) (x : Int32) : Int32 := if (I 37 6) < 1 then 0 else (if 3 ≤ (I 37 6) then 0 else (if ((I 37 2) - 1) < 0 then 0 else (if ((I 37 2) - 1) < (nI 40) then 1 else 0)))
def zw_X8_lengthens (I : Nat → Nat → Int32) (x : Int32) : Nat → Nat → Int32 := if (I 37 6) < 1 then I else (if 3 ≤ (I 37 6) then I else (if ((I 37 2) - 1) < 0 then I else (if ((I 37 2) - 1) < (nI 40) then (zz_u (zz_u I 38 (((I 37 2) - 1).toNatClampNeg) (((I 38 (((I 37 2) - 1).toNatClampNeg)) * 10) + x)) 37 6 ((I 37 6) + 1)) else I)))
theorem zr_X8_lengthens (F : zz_F) (I : Nat → Nat → Int32) (J : Nat → Nat → Int64) (d : Nat) (x : Int32) : zz_run (d) 108 0 [some (.ref 37), some (.int (x)), none] [] (zz_S F I J) (some (.int (zv_X8_lengthens I x))) (zz_S F (zw_X8_lengthens I x) (J)) := by
  unfold zv_X8_lengthens zw_X8_lengthens
  refine zs_108_0 ?_
  repeat' first | refine And.intro rfl ?_ | refine And.intro (Or.inl rfl) ?_ | refine And.intro (Or.inr rfl) ?_ | refine And.intro (Nat.le_of_ble_eq_true rfl) ?_ | refine And.intro (And.intro rfl rfl) ?_ | exact rfl
  refine And.intro (fun (h1 : (I 37 6) < 1) => ?_) (fun (h1 : ¬ ((I 37 6) < 1)) => ?_)
  · try simp only [if_pos h1]
    refine zs_108_36 ?_
    repeat' first | refine And.intro rfl ?_ | refine And.intro (Or.inl rfl) ?_ | refine And.intro (Or.inr rfl) ?_ | refine And.intro (Nat.le_of_ble_eq_true rfl) ?_ | refine And.intro (And.intro rfl rfl) ?_ | exact rfl
  · try simp only [if_neg h1]
    repeat' first | refine And.intro rfl ?_ | refine And.intro (Or.inl rfl) ?_ | refine And.intro (Or.inr rfl) ?_ | refine And.intro (Nat.le_of_ble_eq_true rfl) ?_ | refine And.intro (And.intro rfl rfl) ?_ | exact rfl
    refine And.intro (fun (h2 : 3 ≤ (I 37 6)) => ?_) (fun (h2 : ¬ (3 ≤ (I 37 6))) => ?_)
    · try simp only [if_pos h2]
      refine zs_108_36 ?_
      repeat' first | refine And.intro rfl ?_ | refine And.intro (Or.inl rfl) ?_ | refine And.intro (Or.inr rfl) ?_ | refine And.intro (Nat.le_of_ble_eq_true rfl) ?_ | refine And.intro (And.intro rfl rfl) ?_ | exact rfl
    · try simp only [if_neg h2]
      repeat' first | refine And.intro rfl ?_ | refine And.intro (Or.inl rfl) ?_ | refine And.intro (Or.inr rfl) ?_ | refine And.intro (Nat.le_of_ble_eq_true rfl) ?_ | refine And.intro (And.intro rfl rfl) ?_ | exact rfl
      refine And.intro (fun (h3 : ((I 37 2) - 1) < 0) => ?_) (fun (h3 : ¬ (((I 37 2) - 1) < 0)) => ?_)
      · try simp only [if_pos h3]
        refine zs_108_36 ?_
        repeat' first | refine And.intro rfl ?_ | refine And.intro (Or.inl rfl) ?_ | refine And.intro (Or.inr rfl) ?_ | refine And.intro (Nat.le_of_ble_eq_true rfl) ?_ | refine And.intro (And.intro rfl rfl) ?_ | exact rfl
      · try simp only [if_neg h3]
        repeat' first | refine And.intro rfl ?_ | refine And.intro (Or.inl rfl) ?_ | refine And.intro (Or.inr rfl) ?_ | refine And.intro (Nat.le_of_ble_eq_true rfl) ?_ | refine And.intro (And.intro rfl rfl) ?_ | exact rfl
        refine And.intro (fun (h4 : ((I 37 2) - 1) < (nI 40)) => ?_) (fun (h4 : ¬ (((I 37 2) - 1) < (nI 40))) => ?_)
        · try simp only [if_pos h4]
          refine zs_108_38 ?_
          repeat' first | refine And.intro rfl ?_ | refine And.intro (Or.inl rfl) ?_ | refine And.intro (Or.inr rfl) ?_ | refine And.intro (Nat.le_of_ble_eq_true rfl) ?_ | refine And.intro (And.intro rfl rfl) ?_ | exact rfl
          refine And.intro (zz_vin (n := 40) h3 (zz_lt_nle h4) (Nat.le_of_ble_eq_true rfl)) ?_
          repeat' first | refine And.intro rfl ?_ | refine And.intro (Or.inl rfl) ?_ | refine And.intro (Or.inr rfl) ?_ | refine And.intro (Nat.le_of_ble_eq_true rfl) ?_ | refine And.intro (And.intro rfl rfl) ?_ | exact rfl
          refine And.intro (zz_vin (n := 40) h3 (zz_lt_nle h4) (Nat.le_of_ble_eq_true rfl)) ?_
          repeat' first | refine And.intro rfl ?_ | refine And.intro (Or.inl rfl) ?_ | refine And.intro (Or.inr rfl) ?_ | refine And.intro (Nat.le_of_ble_eq_true rfl) ?_ | refine And.intro (And.intro rfl rfl) ?_ | exact rfl
        · try simp only [if_neg h4]
          repeat' first | refine And.intro rfl ?_ | refine And.intro (Or.inl rfl) ?_ | refine And.intro (Or.inr rfl) ?_ | refine And.intro (Nat.le_of_ble_eq_true rfl) ?_ | refine And.intro (And.intro rfl rfl) ?_ | exact rfl
          refine zs_108_36 ?_
          repeat' first | refine And.intro rfl ?_ | refine And.intro (Or.inl rfl) ?_ | refine And.intro (Or.inr rfl) ?_ | refine And.intro (Nat.le_of_ble_eq_true rfl) ?_ | refine And.intro (And.intro rfl rfl) ?_ | exact rfl
theorem zb_X8_lengthens (I : Nat → Nat → Int32) (x : Int32) : zv_X8_lengthens I x = 0 ∨ zv_X8_lengthens I x = 1 := by
  unfold zv_X8_lengthens
  repeat' first | split | exact Or.inl rfl | exact Or.inr rfl
def zw_X8_hold (I : Nat → Nat → Int32) (x : Int32) : Nat → Nat → Int32 := if (I 37 3) < 0 then I else (if (nI 40) ≤ (I 37 3) then I else (zz_u (zz_u I 39 ((I 37 3).toNatClampNeg) x) 37 3 ((I 37 3) + 1)))
theorem zr_X8_hold (F : zz_F) (I : Nat → Nat → Int32) (J : Nat → Nat → Int64) (d : Nat) (x : Int32) : zz_run (d) 109 0 [some (.ref 37), some (.int (x))] [] (zz_S F I J) none (zz_S F (zw_X8_hold I x) (J)) := by
  unfold zw_X8_hold
  refine zs_109_0 ?_
  repeat' first | refine And.intro rfl ?_ | refine And.intro (Or.inl rfl) ?_ | refine And.intro (Or.inr rfl) ?_ | refine And.intro (Nat.le_of_ble_eq_true rfl) ?_ | refine And.intro (And.intro rfl rfl) ?_ | exact rfl
  refine And.intro (fun (h1 : (I 37 3) < 0) => ?_) (fun (h1 : ¬ ((I 37 3) < 0)) => ?_)
  · try simp only [if_pos h1]
    refine zs_109_39 ?_
    repeat' first | refine And.intro rfl ?_ | refine And.intro (Or.inl rfl) ?_ | refine And.intro (Or.inr rfl) ?_ | refine And.intro (Nat.le_of_ble_eq_true rfl) ?_ | refine And.intro (And.intro rfl rfl) ?_ | exact rfl
  · try simp only [if_neg h1]
    repeat' first | refine And.intro rfl ?_ | refine And.intro (Or.inl rfl) ?_ | refine And.intro (Or.inr rfl) ?_ | refine And.intro (Nat.le_of_ble_eq_true rfl) ?_ | refine And.intro (And.intro rfl rfl) ?_ | exact rfl
    refine And.intro (fun (h2 : (nI 40) ≤ (I 37 3)) => ?_) (fun (h2 : ¬ ((nI 40) ≤ (I 37 3))) => ?_)
    · try simp only [if_pos h2]
      refine zs_109_39 ?_
      repeat' first | refine And.intro rfl ?_ | refine And.intro (Or.inl rfl) ?_ | refine And.intro (Or.inr rfl) ?_ | refine And.intro (Nat.le_of_ble_eq_true rfl) ?_ | refine And.intro (And.intro rfl rfl) ?_ | exact rfl
    · try simp only [if_neg h2]
      repeat' first | refine And.intro rfl ?_ | refine And.intro (Or.inl rfl) ?_ | refine And.intro (Or.inr rfl) ?_ | refine And.intro (Nat.le_of_ble_eq_true rfl) ?_ | refine And.intro (And.intro rfl rfl) ?_ | exact rfl
      refine And.intro (zz_vin (n := 40) h1 h2 (Nat.le_of_ble_eq_true rfl)) ?_
      repeat' first | refine And.intro rfl ?_ | refine And.intro (Or.inl rfl) ?_ | refine And.intro (Or.inr rfl) ?_ | refine And.intro (Nat.le_of_ble_eq_true rfl) ?_ | refine And.intro (And.intro rfl rfl) ?_ | exact rfl
      refine zs_109_39 ?_
      repeat' first | refine And.intro rfl ?_ | refine And.intro (Or.inl rfl) ?_ | refine And.intro (Or.inr rfl) ?_ | refine And.intro (Nat.le_of_ble_eq_true rfl) ?_ | refine And.intro (And.intro rfl rfl) ?_ | exact rfl
def zw_X8_emit (I : Nat → Nat → Int32) (x : Int32) : Nat → Nat → Int32 := if (I 37 2) < 0 then I else (if (nI 40) ≤ (I 37 2) then I else (zz_u (zz_u I 38 ((I 37 2).toNatClampNeg) x) 37 2 ((I 37 2) + 1)))
theorem zr_X8_emit (F : zz_F) (I : Nat → Nat → Int32) (J : Nat → Nat → Int64) (d : Nat) (x : Int32) : zz_run (d) 111 0 [some (.ref 37), some (.int (x))] [] (zz_S F I J) none (zz_S F (zw_X8_emit I x) (J)) := by
  unfold zw_X8_emit
  refine zs_111_0 ?_
  repeat' first | refine And.intro rfl ?_ | refine And.intro (Or.inl rfl) ?_ | refine And.intro (Or.inr rfl) ?_ | refine And.intro (Nat.le_of_ble_eq_true rfl) ?_ | refine And.intro (And.intro rfl rfl) ?_ | exact rfl
  refine And.intro (fun (h1 : (I 37 2) < 0) => ?_) (fun (h1 : ¬ ((I 37 2) < 0)) => ?_)
  · try simp only [if_pos h1]
    refine zs_111_39 ?_
    repeat' first | refine And.intro rfl ?_ | refine And.intro (Or.inl rfl) ?_ | refine And.intro (Or.inr rfl) ?_ | refine And.intro (Nat.le_of_ble_eq_true rfl) ?_ | refine And.intro (And.intro rfl rfl) ?_ | exact rfl
  · try simp only [if_neg h1]
    repeat' first | refine And.intro rfl ?_ | refine And.intro (Or.inl rfl) ?_ | refine And.intro (Or.inr rfl) ?_ | refine And.intro (Nat.le_of_ble_eq_true rfl) ?_ | refine And.intro (And.intro rfl rfl) ?_ | exact rfl
    refine And.intro (fun (h2 : (nI 40) ≤ (I 37 2)) => ?_) (fun (h2 : ¬ ((nI 40) ≤ (I 37 2))) => ?_)
    · try simp only [if_pos h2]
      refine zs_111_39 ?_
      repeat' first | refine And.intro rfl ?_ | refine And.intro (Or.inl rfl) ?_ | refine And.intro (Or.inr rfl) ?_ | refine And.intro (Nat.le_of_ble_eq_true rfl) ?_ | refine And.intro (And.intro rfl rfl) ?_ | exact rfl
    · try simp only [if_neg h2]
      repeat' first | refine And.intro rfl ?_ | refine And.intro (Or.inl rfl) ?_ | refine And.intro (Or.inr rfl) ?_ | refine And.intro (Nat.le_of_ble_eq_true rfl) ?_ | refine And.intro (And.intro rfl rfl) ?_ | exact rfl
      refine And.intro (zz_vin (n := 40) h1 h2 (Nat.le_of_ble_eq_true rfl)) ?_
      repeat' first | refine And.intro rfl ?_ | refine And.intro (Or.inl rfl) ?_ | refine And.intro (Or.inr rfl) ?_ | refine And.intro (Nat.le_of_ble_eq_true rfl) ?_ | refine And.intro (And.intro rfl rfl) ?_ | exact rfl
      refine zs_111_39 ?_
      repeat' first | refine And.intro rfl ?_ | refine And.intro (Or.inl rfl) ?_ | refine And.intro (Or.inr rfl) ?_ | refine And.intro (Nat.le_of_ble_eq_true rfl) ?_ | refine And.intro (And.intro rfl rfl) ?_ | exact rfl
def zv_X9_has (I : Nat → Nat → Int32) (x : Int32) : Int32 := if x < 0 then 0 else (if (I 5 2) ≤ x then 0 else 1)
theorem zr_X9_has (F : zz_F) (I : Nat → Nat → Int32) (J : Nat → Nat → Int64) (d : Nat) (x : Int32) : zz_run (d) 113 0 [some (.ref 5), some (.int (x))] [] (zz_S F I J) (some (.int (zv_X9_has I x))) (zz_S F (I) (J)) := by
  unfold zv_X9_has
  refine zs_113_0 ?_
  repeat' first | refine And.intro rfl ?_ | refine And.intro (Or.inl rfl) ?_ | refine And.intro (Or.inr rfl) ?_ | refine And.intro (Nat.le_of_ble_eq_true rfl) ?_ | refine And.intro (And.intro rfl rfl) ?_ | exact rfl
  refine And.intro (fun (h1 : x < 0) => ?_) (fun (h1 : ¬ (x < 0)) => ?_)
  · try simp only [if_pos h1]
    refine zs_113_16 ?_
    repeat' first | refine And.intro rfl ?_ | refine And.intro (Or.inl rfl) ?_ | refine And.intro (Or.inr rfl) ?_ | refine And.intro (Nat.le_of_ble_eq_true rfl) ?_ | refine And.intro (And.intro rfl rfl) ?_ | exact rfl
    refine zs_113_17 ?_
    repeat' first | refine And.intro rfl ?_ | refine And.intro (Or.inl rfl) ?_ | refine And.intro (Or.inr rfl) ?_ | refine And.intro (Nat.le_of_ble_eq_true rfl) ?_ | refine And.intro (And.intro rfl rfl) ?_ | exact rfl
  · try simp only [if_neg h1]
    repeat' first | refine And.intro rfl ?_ | refine And.intro (Or.inl rfl) ?_ | refine And.intro (Or.inr rfl) ?_ | refine And.intro (Nat.le_of_ble_eq_true rfl) ?_ | refine And.intro (And.intro rfl rfl) ?_ | exact rfl
    refine And.intro (fun (h2 : (I 5 2) ≤ x) => ?_) (fun (h2 : ¬ ((I 5 2) ≤ x)) => ?_)
    · try simp only [if_pos h2]
      refine zs_113_16 ?_
      repeat' first | refine And.intro rfl ?_ | refine And.intro (Or.inl rfl) ?_ | refine And.intro (Or.inr rfl) ?_ | refine And.intro (Nat.le_of_ble_eq_true rfl) ?_ | refine And.intro (And.intro rfl rfl) ?_ | exact rfl
      refine zs_113_17 ?_
      repeat' first | refine And.intro rfl ?_ | refine And.intro (Or.inl rfl) ?_ | refine And.intro (Or.inr rfl) ?_ | refine And.intro (Nat.le_of_ble_eq_true rfl) ?_ | refine And.intro (And.intro rfl rfl) ?_ | exact rfl
    · try simp only [if_neg h2]
      repeat' first | refine And.intro rfl ?_ | refine And.intro (Or.inl rfl) ?_ | refine And.intro (Or.inr rfl) ?_ | refine And.intro (Nat.le_of_ble_eq_true rfl) ?_ | refine And.intro (And.intro rfl rfl) ?_ | exact rfl
      refine zs_113_17 ?_
      repeat' first | refine And.intro rfl ?_ | refine And.intro (Or.inl rfl) ?_ | refine And.intro (Or.inr rfl) ?_ | refine And.intro (Nat.le_of_ble_eq_true rfl) ?_ | refine And.intro (And.intro rfl rfl) ?_ | exact rfl
theorem zb_X9_has (I : Nat → Nat → Int32) (x : Int32) : zv_X9_has I x = 0 ∨ zv_X9_has I x = 1 := by
  unfold zv_X9_has
  repeat' first | split | exact Or.inl rfl | exact Or.inr rfl
