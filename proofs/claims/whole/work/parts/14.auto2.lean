/-! contracts printed by wip/whole/auto.py -/
def zv_X9_scenesOf (I : Nat → Nat → Int32) (x : Int32) : Int32 := if x = 0 then (I 7 x.toNatClampNeg) else (if ¬ x = 1 then 0 else (I 7 x.toNatClampNeg))
theorem zr_X9_scenesOf (F : zz_F) (I : Nat → Nat → Int32) (J : Nat → Nat → Int64) (d : Nat) (x : Int32) : zz_run (d) 117 0 [some (.ref 5), some (.int (x))] [] (zz_S F I J) (some (.int (zv_X9_scenesOf I x))) (zz_S F (I) (J)) := by
  unfold zv_X9_scenesOf
  refine zs_117_0 ?_
  repeat' first | refine And.intro rfl ?_ | refine And.intro (Or.inl rfl) ?_ | refine And.intro (Or.inr rfl) ?_ | refine And.intro (Nat.le_of_ble_eq_true rfl) ?_ | refine And.intro (And.intro rfl rfl) ?_ | exact rfl
  refine And.intro (fun (h1 : x = 0) => ?_) (fun (h1 : ¬ (x = 0)) => ?_)
  · try simp only [if_pos h1]
    refine zs_117_9 ?_
    repeat' first | refine And.intro rfl ?_ | refine And.intro (Or.inl rfl) ?_ | refine And.intro (Or.inr rfl) ?_ | refine And.intro (Nat.le_of_ble_eq_true rfl) ?_ | refine And.intro (And.intro rfl rfl) ?_ | exact rfl
    refine And.intro (zz_veq (k := 0) h1 rfl rfl) ?_
    repeat' first | refine And.intro rfl ?_ | refine And.intro (Or.inl rfl) ?_ | refine And.intro (Or.inr rfl) ?_ | refine And.intro (Nat.le_of_ble_eq_true rfl) ?_ | refine And.intro (And.intro rfl rfl) ?_ | exact rfl
    refine zs_117_19 ?_
    repeat' first | refine And.intro rfl ?_ | refine And.intro (Or.inl rfl) ?_ | refine And.intro (Or.inr rfl) ?_ | refine And.intro (Nat.le_of_ble_eq_true rfl) ?_ | refine And.intro (And.intro rfl rfl) ?_ | exact rfl
  · try simp only [if_neg h1]
    repeat' first | refine And.intro rfl ?_ | refine And.intro (Or.inl rfl) ?_ | refine And.intro (Or.inr rfl) ?_ | refine And.intro (Nat.le_of_ble_eq_true rfl) ?_ | refine And.intro (And.intro rfl rfl) ?_ | exact rfl
    refine And.intro (fun (h2 : ¬ x = 1) => ?_) (fun (h2 : ¬ (¬ x = 1)) => ?_)
    · try simp only [if_pos h2]
      refine zs_117_18 ?_
      repeat' first | refine And.intro rfl ?_ | refine And.intro (Or.inl rfl) ?_ | refine And.intro (Or.inr rfl) ?_ | refine And.intro (Nat.le_of_ble_eq_true rfl) ?_ | refine And.intro (And.intro rfl rfl) ?_ | exact rfl
      refine zs_117_19 ?_
      repeat' first | refine And.intro rfl ?_ | refine And.intro (Or.inl rfl) ?_ | refine And.intro (Or.inr rfl) ?_ | refine And.intro (Nat.le_of_ble_eq_true rfl) ?_ | refine And.intro (And.intro rfl rfl) ?_ | exact rfl
    · try simp only [if_neg h2]
      repeat' first | refine And.intro rfl ?_ | refine And.intro (Or.inl rfl) ?_ | refine And.intro (Or.inr rfl) ?_ | refine And.intro (Nat.le_of_ble_eq_true rfl) ?_ | refine And.intro (And.intro rfl rfl) ?_ | exact rfl
      refine zs_117_9 ?_
      repeat' first | refine And.intro rfl ?_ | refine And.intro (Or.inl rfl) ?_ | refine And.intro (Or.inr rfl) ?_ | refine And.intro (Nat.le_of_ble_eq_true rfl) ?_ | refine And.intro (And.intro rfl rfl) ?_ | exact rfl
      refine And.intro (zz_veq (k := 1) (zz_nn h2) rfl rfl) ?_
      repeat' first | refine And.intro rfl ?_ | refine And.intro (Or.inl rfl) ?_ | refine And.intro (Or.inr rfl) ?_ | refine And.intro (Nat.le_of_ble_eq_true rfl) ?_ | refine And.intro (And.intro rfl rfl) ?_ | exact rfl
      refine zs_117_19 ?_
      repeat' first | refine And.intro rfl ?_ | refine And.intro (Or.inl rfl) ?_ | refine And.intro (Or.inr rfl) ?_ | refine And.intro (Nat.le_of_ble_eq_true rfl) ?_ | refine And.intro (And.intro rfl rfl) ?_ | exact rfl
def zv_X11_end (I : Nat → Nat → Int32) (x : Int32) : Int32 := if x < 0 then 0 else (if x ≤ (I 2 1) then 1 else 0)
def zw_X11_end (I : Nat → Nat → Int32) (x : Int32) : Nat → Nat → Int32 := if x < 0 then I else (if x ≤ (I 2 1) then (zz_u I 2 1 x) else I)
theorem zr_X11_end (F : zz_F) (I : Nat → Nat → Int32) (J : Nat → Nat → Int64) (d : Nat) (x : Int32) : zz_run (d) 135 0 [some (.ref 2), some (.int (x))] [] (zz_S F I J) (some (.int (zv_X11_end I x))) (zz_S F (zw_X11_end I x) (J)) := by
  unfold zv_X11_end zw_X11_end
  refine zs_135_0 ?_
  repeat' first | refine And.intro rfl ?_ | refine And.intro (Or.inl rfl) ?_ | refine And.intro (Or.inr rfl) ?_ | refine And.intro (Nat.le_of_ble_eq_true rfl) ?_ | refine And.intro (And.intro rfl rfl) ?_ | exact rfl
  refine And.intro (fun (h1 : x < 0) => ?_) (fun (h1 : ¬ (x < 0)) => ?_)
  · try simp only [if_pos h1]
    refine zs_135_12 ?_
    repeat' first | refine And.intro rfl ?_ | refine And.intro (Or.inl rfl) ?_ | refine And.intro (Or.inr rfl) ?_ | refine And.intro (Nat.le_of_ble_eq_true rfl) ?_ | refine And.intro (And.intro rfl rfl) ?_ | exact rfl
  · try simp only [if_neg h1]
    repeat' first | refine And.intro rfl ?_ | refine And.intro (Or.inl rfl) ?_ | refine And.intro (Or.inr rfl) ?_ | refine And.intro (Nat.le_of_ble_eq_true rfl) ?_ | refine And.intro (And.intro rfl rfl) ?_ | exact rfl
    refine And.intro (fun (h2 : x ≤ (I 2 1)) => ?_) (fun (h2 : ¬ (x ≤ (I 2 1))) => ?_)
    · try simp only [if_pos h2]
      refine zs_135_14 ?_
      repeat' first | refine And.intro rfl ?_ | refine And.intro (Or.inl rfl) ?_ | refine And.intro (Or.inr rfl) ?_ | refine And.intro (Nat.le_of_ble_eq_true rfl) ?_ | refine And.intro (And.intro rfl rfl) ?_ | exact rfl
    · try simp only [if_neg h2]
      repeat' first | refine And.intro rfl ?_ | refine And.intro (Or.inl rfl) ?_ | refine And.intro (Or.inr rfl) ?_ | refine And.intro (Nat.le_of_ble_eq_true rfl) ?_ | refine And.intro (And.intro rfl rfl) ?_ | exact rfl
      refine zs_135_12 ?_
      repeat' first | refine And.intro rfl ?_ | refine And.intro (Or.inl rfl) ?_ | refine And.intro (Or.inr rfl) ?_ | refine And.intro (Nat.le_of_ble_eq_true rfl) ?_ | refine And.intro (And.intro rfl rfl) ?_ | exact rfl
theorem zb_X11_end (I : Nat → Nat → Int32) (x : Int32) : zv_X11_end I x = 0 ∨ zv_X11_end I x = 1 := by
  unfold zv_X11_end
  repeat' first | split | exact Or.inl rfl | exact Or.inr rfl
def zv_X11_isPlay (x : Int32) : Int32 := if x = 0 then 1 else (if ¬ x = 1 then 0 else 1)
theorem zr_X11_isPlay (F : zz_F) (I : Nat → Nat → Int32) (J : Nat → Nat → Int64) (d : Nat) (x : Int32) : zz_run (d) 178 0 [some (.int (x))] [] (zz_S F I J) (some (.int (zv_X11_isPlay x))) (zz_S F (I) (J)) := by
  unfold zv_X11_isPlay
  refine zs_178_0 ?_
  repeat' first | refine And.intro rfl ?_ | refine And.intro (Or.inl rfl) ?_ | refine And.intro (Or.inr rfl) ?_ | refine And.intro (Nat.le_of_ble_eq_true rfl) ?_ | refine And.intro (And.intro rfl rfl) ?_ | exact rfl
  refine And.intro (fun (h1 : x = 0) => ?_) (fun (h1 : ¬ (x = 0)) => ?_)
  · try simp only [if_pos h1]
    refine zs_178_9 ?_
    repeat' first | refine And.intro rfl ?_ | refine And.intro (Or.inl rfl) ?_ | refine And.intro (Or.inr rfl) ?_ | refine And.intro (Nat.le_of_ble_eq_true rfl) ?_ | refine And.intro (And.intro rfl rfl) ?_ | exact rfl
    refine zs_178_14 ?_
    repeat' first | refine And.intro rfl ?_ | refine And.intro (Or.inl rfl) ?_ | refine And.intro (Or.inr rfl) ?_ | refine And.intro (Nat.le_of_ble_eq_true rfl) ?_ | refine And.intro (And.intro rfl rfl) ?_ | exact rfl
  · try simp only [if_neg h1]
    repeat' first | refine And.intro rfl ?_ | refine And.intro (Or.inl rfl) ?_ | refine And.intro (Or.inr rfl) ?_ | refine And.intro (Nat.le_of_ble_eq_true rfl) ?_ | refine And.intro (And.intro rfl rfl) ?_ | exact rfl
    refine And.intro (fun (h2 : ¬ x = 1) => ?_) (fun (h2 : ¬ (¬ x = 1)) => ?_)
    · try simp only [if_pos h2]
      refine zs_178_13 ?_
      repeat' first | refine And.intro rfl ?_ | refine And.intro (Or.inl rfl) ?_ | refine And.intro (Or.inr rfl) ?_ | refine And.intro (Nat.le_of_ble_eq_true rfl) ?_ | refine And.intro (And.intro rfl rfl) ?_ | exact rfl
      refine zs_178_14 ?_
      repeat' first | refine And.intro rfl ?_ | refine And.intro (Or.inl rfl) ?_ | refine And.intro (Or.inr rfl) ?_ | refine And.intro (Nat.le_of_ble_eq_true rfl) ?_ | refine And.intro (And.intro rfl rfl) ?_ | exact rfl
    · try simp only [if_neg h2]
      repeat' first | refine And.intro rfl ?_ | refine And.intro (Or.inl rfl) ?_ | refine And.intro (Or.inr rfl) ?_ | refine And.intro (Nat.le_of_ble_eq_true rfl) ?_ | refine And.intro (And.intro rfl rfl) ?_ | exact rfl
      refine zs_178_9 ?_
      repeat' first | refine And.intro rfl ?_ | refine And.intro (Or.inl rfl) ?_ | refine And.intro (Or.inr rfl) ?_ | refine And.intro (Nat.le_of_ble_eq_true rfl) ?_ | refine And.intro (And.intro rfl rfl) ?_ | exact rfl
      refine zs_178_14 ?_
      repeat' first | refine And.intro rfl ?_ | refine And.intro (Or.inl rfl) ?_ | refine And.intro (Or.inr rfl) ?_ | refine And.intro (Nat.le_of_ble_eq_true rfl) ?_ | refine And.intro (And.intro rfl rfl) ?_ | exact rfl
theorem zb_X11_isPlay (x : Int32) : zv_X11_isPlay x = 0 ∨ zv_X11_isPlay x = 1 := by
  unfold zv_X11_isPlay
  repeat' first | split | exact Or.inl rfl | exact Or.inr rfl
def zv_X11_isPerson (x : Int32) : Int32 := if x < 0 then 0 else (if 6 ≤ x then 0 else 1)
theorem zr_X11_isPerson (F : zz_F) (I : Nat → Nat → Int32) (J : Nat → Nat → Int64) (d : Nat) (x : Int32) : zz_run (d) 179 0 [some (.int (x))] [] (zz_S F I J) (some (.int (zv_X11_isPerson x))) (zz_S F (I) (J)) := by
  unfold zv_X11_isPerson
  refine zs_179_0 ?_
  repeat' first | refine And.intro rfl ?_ | refine And.intro (Or.inl rfl) ?_ | refine And.intro (Or.inr rfl) ?_ | refine And.intro (Nat.le_of_ble_eq_true rfl) ?_ | refine And.intro (And.intro rfl rfl) ?_ | exact rfl
  refine And.intro (fun (h1 : x < 0) => ?_) (fun (h1 : ¬ (x < 0)) => ?_)
  · try simp only [if_pos h1]
    refine zs_179_14 ?_
    repeat' first | refine And.intro rfl ?_ | refine And.intro (Or.inl rfl) ?_ | refine And.intro (Or.inr rfl) ?_ | refine And.intro (Nat.le_of_ble_eq_true rfl) ?_ | refine And.intro (And.intro rfl rfl) ?_ | exact rfl
    refine zs_179_15 ?_
    repeat' first | refine And.intro rfl ?_ | refine And.intro (Or.inl rfl) ?_ | refine And.intro (Or.inr rfl) ?_ | refine And.intro (Nat.le_of_ble_eq_true rfl) ?_ | refine And.intro (And.intro rfl rfl) ?_ | exact rfl
  · try simp only [if_neg h1]
    repeat' first | refine And.intro rfl ?_ | refine And.intro (Or.inl rfl) ?_ | refine And.intro (Or.inr rfl) ?_ | refine And.intro (Nat.le_of_ble_eq_true rfl) ?_ | refine And.intro (And.intro rfl rfl) ?_ | exact rfl
    refine And.intro (fun (h2 : 6 ≤ x) => ?_) (fun (h2 : ¬ (6 ≤ x)) => ?_)
    · try simp only [if_pos h2]
      refine zs_179_14 ?_
      repeat' first | refine And.intro rfl ?_ | refine And.intro (Or.inl rfl) ?_ | refine And.intro (Or.inr rfl) ?_ | refine And.intro (Nat.le_of_ble_eq_true rfl) ?_ | refine And.intro (And.intro rfl rfl) ?_ | exact rfl
      refine zs_179_15 ?_
      repeat' first | refine And.intro rfl ?_ | refine And.intro (Or.inl rfl) ?_ | refine And.intro (Or.inr rfl) ?_ | refine And.intro (Nat.le_of_ble_eq_true rfl) ?_ | refine And.intro (And.intro rfl rfl) ?_ | exact rfl
    · try simp only [if_neg h2]
      repeat' first | refine And.intro rfl ?_ | refine And.intro (Or.inl rfl) ?_ | refine And.intro (Or.inr rfl) ?_ | refine And.intro (Nat.le_of_ble_eq_true rfl) ?_ | refine And.intro (And.intro rfl rfl) ?_ | exact rfl
      refine zs_179_15 ?_
      repeat' first | refine And.intro rfl ?_ | refine And.intro (Or.inl rfl) ?_ | refine And.intro (Or.inr rfl) ?_ | refine And.intro (Nat.le_of_ble_eq_true rfl) ?_ | refine And.intro (And.intro rfl rfl) ?_ | exact rfl
theorem zb_X11_isPerson (x : Int32) : zv_X11_isPerson x = 0 ∨ zv_X11_isPerson x = 1 := by
  unfold zv_X11_isPerson
  repeat' first | split | exact Or.inl rfl | exact Or.inr rfl
def zv_X11_isHour (x : Int32) : Int32 := if x < 0 then 0 else (if 199 < x then 0 else 1)
theorem zr_X11_isHour (F : zz_F) (I : Nat → Nat → Int32) (J : Nat → Nat → Int64) (d : Nat) (x : Int32) : zz_run (d) 180 0 [some (.int (x))] [] (zz_S F I J) (some (.int (zv_X11_isHour x))) (zz_S F (I) (J)) := by
  unfold zv_X11_isHour
  refine zs_180_0 ?_
  repeat' first | refine And.intro rfl ?_ | refine And.intro (Or.inl rfl) ?_ | refine And.intro (Or.inr rfl) ?_ | refine And.intro (Nat.le_of_ble_eq_true rfl) ?_ | refine And.intro (And.intro rfl rfl) ?_ | exact rfl
  refine And.intro (fun (h1 : x < 0) => ?_) (fun (h1 : ¬ (x < 0)) => ?_)
  · try simp only [if_pos h1]
    refine zs_180_15 ?_
    repeat' first | refine And.intro rfl ?_ | refine And.intro (Or.inl rfl) ?_ | refine And.intro (Or.inr rfl) ?_ | refine And.intro (Nat.le_of_ble_eq_true rfl) ?_ | refine And.intro (And.intro rfl rfl) ?_ | exact rfl
    refine zs_180_16 ?_
    repeat' first | refine And.intro rfl ?_ | refine And.intro (Or.inl rfl) ?_ | refine And.intro (Or.inr rfl) ?_ | refine And.intro (Nat.le_of_ble_eq_true rfl) ?_ | refine And.intro (And.intro rfl rfl) ?_ | exact rfl
  · try simp only [if_neg h1]
    repeat' first | refine And.intro rfl ?_ | refine And.intro (Or.inl rfl) ?_ | refine And.intro (Or.inr rfl) ?_ | refine And.intro (Nat.le_of_ble_eq_true rfl) ?_ | refine And.intro (And.intro rfl rfl) ?_ | exact rfl
    refine And.intro (fun (h2 : 199 < x) => ?_) (fun (h2 : ¬ (199 < x)) => ?_)
    · try simp only [if_pos h2]
      refine zs_180_15 ?_
      repeat' first | refine And.intro rfl ?_ | refine And.intro (Or.inl rfl) ?_ | refine And.intro (Or.inr rfl) ?_ | refine And.intro (Nat.le_of_ble_eq_true rfl) ?_ | refine And.intro (And.intro rfl rfl) ?_ | exact rfl
      refine zs_180_16 ?_
      repeat' first | refine And.intro rfl ?_ | refine And.intro (Or.inl rfl) ?_ | refine And.intro (Or.inr rfl) ?_ | refine And.intro (Nat.le_of_ble_eq_true rfl) ?_ | refine And.intro (And.intro rfl rfl) ?_ | exact rfl
    · try simp only [if_neg h2]
      repeat' first | refine And.intro rfl ?_ | refine And.intro (Or.inl rfl) ?_ | refine And.intro (Or.inr rfl) ?_ | refine And.intro (Nat.le_of_ble_eq_true rfl) ?_ | refine And.intro (And.intro rfl rfl) ?_ | exact rfl
      refine zs_180_16 ?_
      repeat' first | refine And.intro rfl ?_ | refine And.intro (Or.inl rfl) ?_ | refine And.intro (Or.inr rfl) ?_ | refine And.intro (Nat.le_of_ble_eq_true rfl) ?_ | refine And.intro (And.intro rfl rfl) ?_ | exact rfl
theorem zb_X11_isHour (x : Int32) : zv_X11_isHour x = 0 ∨ zv_X11_isHour x = 1 := by
  unfold zv_X11_isHour
  repeat' first | split | exact Or.inl rfl | exact Or.inr rfl
def zw_X11_addSign (I : Nat → Nat → Int32) (x : Int32) : Nat → Nat → Int32 := if (I 2 1) < 0 then I else (if (nI 80) ≤ (I 2 1) then I else (zz_u (zz_u I 3 ((I 2 1).toNatClampNeg) (vp_nar .char ((x.toUInt32 % 65536).toInt32))) 2 1 ((I 2 1) + 1)))
theorem zr_X11_addSign (F : zz_F) (I : Nat → Nat → Int32) (J : Nat → Nat → Int64) (d : Nat) (x : Int32) : zz_run (d) 181 0 [some (.ref 2), some (.int (x))] [] (zz_S F I J) none (zz_S F (zw_X11_addSign I x) (J)) := by
  unfold zw_X11_addSign
  refine zs_181_0 ?_
  repeat' first | refine And.intro rfl ?_ | refine And.intro (Or.inl rfl) ?_ | refine And.intro (Or.inr rfl) ?_ | refine And.intro (Nat.le_of_ble_eq_true rfl) ?_ | refine And.intro (And.intro rfl rfl) ?_ | exact rfl
  refine And.intro (fun (h1 : (I 2 1) < 0) => ?_) (fun (h1 : ¬ ((I 2 1) < 0)) => ?_)
  · try simp only [if_pos h1]
    refine zs_181_40 ?_
    repeat' first | refine And.intro rfl ?_ | refine And.intro (Or.inl rfl) ?_ | refine And.intro (Or.inr rfl) ?_ | refine And.intro (Nat.le_of_ble_eq_true rfl) ?_ | refine And.intro (And.intro rfl rfl) ?_ | exact rfl
  · try simp only [if_neg h1]
    repeat' first | refine And.intro rfl ?_ | refine And.intro (Or.inl rfl) ?_ | refine And.intro (Or.inr rfl) ?_ | refine And.intro (Nat.le_of_ble_eq_true rfl) ?_ | refine And.intro (And.intro rfl rfl) ?_ | exact rfl
    refine And.intro (fun (h2 : (nI 80) ≤ (I 2 1)) => ?_) (fun (h2 : ¬ ((nI 80) ≤ (I 2 1))) => ?_)
    · try simp only [if_pos h2]
      refine zs_181_40 ?_
      repeat' first | refine And.intro rfl ?_ | refine And.intro (Or.inl rfl) ?_ | refine And.intro (Or.inr rfl) ?_ | refine And.intro (Nat.le_of_ble_eq_true rfl) ?_ | refine And.intro (And.intro rfl rfl) ?_ | exact rfl
    · try simp only [if_neg h2]
      repeat' first | refine And.intro rfl ?_ | refine And.intro (Or.inl rfl) ?_ | refine And.intro (Or.inr rfl) ?_ | refine And.intro (Nat.le_of_ble_eq_true rfl) ?_ | refine And.intro (And.intro rfl rfl) ?_ | exact rfl
      refine And.intro (zz_vin (n := 80) h1 h2 (Nat.le_of_ble_eq_true rfl)) ?_
      repeat' first | refine And.intro rfl ?_ | refine And.intro (Or.inl rfl) ?_ | refine And.intro (Or.inr rfl) ?_ | refine And.intro (Nat.le_of_ble_eq_true rfl) ?_ | refine And.intro (And.intro rfl rfl) ?_ | exact rfl
      refine zs_181_40 ?_
      repeat' first | refine And.intro rfl ?_ | refine And.intro (Or.inl rfl) ?_ | refine And.intro (Or.inr rfl) ?_ | refine And.intro (Nat.le_of_ble_eq_true rfl) ?_ | refine And.intro (And.intro rfl rfl) ?_ | exact rfl
def zv_X11_takeText (I : Nat → Nat → Int32)  : Int32 := I 2 1
def zw_X11_takeText (I : Nat → Nat → Int32)  : Nat → Nat → Int32 := zz_u I 2 1 0
theorem zr_X11_takeText (F : zz_F) (I : Nat → Nat → Int32) (J : Nat → Nat → Int64) (d : Nat)  : zz_run (d) 182 0 [some (.ref 2), none] [] (zz_S F I J) (some (.int (zv_X11_takeText I))) (zz_S F (zw_X11_takeText I) (J)) := by
  unfold zv_X11_takeText zw_X11_takeText
  refine zs_182_0 ?_
  repeat' first | refine And.intro rfl ?_ | refine And.intro (Or.inl rfl) ?_ | refine And.intro (Or.inr rfl) ?_ | refine And.intro (Nat.le_of_ble_eq_true rfl) ?_ | refine And.intro (And.intro rfl rfl) ?_ | exact rfl
def zv_X11_signAt (I : Nat → Nat → Int32) (x : Int32) : Int32 := if x < 0 then 0 else (if (nI 80) ≤ x then 0 else (I 3 x.toNatClampNeg))
theorem zr_X11_signAt (F : zz_F) (I : Nat → Nat → Int32) (J : Nat → Nat → Int64) (d : Nat) (x : Int32) : zz_run (d) 183 0 [some (.ref 2), some (.int (x))] [] (zz_S F I J) (some (.int (zv_X11_signAt I x))) (zz_S F (I) (J)) := by
  unfold zv_X11_signAt
  refine zs_183_0 ?_
  repeat' first | refine And.intro rfl ?_ | refine And.intro (Or.inl rfl) ?_ | refine And.intro (Or.inr rfl) ?_ | refine And.intro (Nat.le_of_ble_eq_true rfl) ?_ | refine And.intro (And.intro rfl rfl) ?_ | exact rfl
  refine And.intro (fun (h1 : x < 0) => ?_) (fun (h1 : ¬ (x < 0)) => ?_)
  · try simp only [if_pos h1]
    refine zs_183_22 ?_
    repeat' first | refine And.intro rfl ?_ | refine And.intro (Or.inl rfl) ?_ | refine And.intro (Or.inr rfl) ?_ | refine And.intro (Nat.le_of_ble_eq_true rfl) ?_ | refine And.intro (And.intro rfl rfl) ?_ | exact rfl
    refine zs_183_23 ?_
    repeat' first | refine And.intro rfl ?_ | refine And.intro (Or.inl rfl) ?_ | refine And.intro (Or.inr rfl) ?_ | refine And.intro (Nat.le_of_ble_eq_true rfl) ?_ | refine And.intro (And.intro rfl rfl) ?_ | exact rfl
  · try simp only [if_neg h1]
    repeat' first | refine And.intro rfl ?_ | refine And.intro (Or.inl rfl) ?_ | refine And.intro (Or.inr rfl) ?_ | refine And.intro (Nat.le_of_ble_eq_true rfl) ?_ | refine And.intro (And.intro rfl rfl) ?_ | exact rfl
    refine And.intro (fun (h2 : (nI 80) ≤ x) => ?_) (fun (h2 : ¬ ((nI 80) ≤ x)) => ?_)
    · try simp only [if_pos h2]
      refine zs_183_22 ?_
      repeat' first | refine And.intro rfl ?_ | refine And.intro (Or.inl rfl) ?_ | refine And.intro (Or.inr rfl) ?_ | refine And.intro (Nat.le_of_ble_eq_true rfl) ?_ | refine And.intro (And.intro rfl rfl) ?_ | exact rfl
      refine zs_183_23 ?_
      repeat' first | refine And.intro rfl ?_ | refine And.intro (Or.inl rfl) ?_ | refine And.intro (Or.inr rfl) ?_ | refine And.intro (Nat.le_of_ble_eq_true rfl) ?_ | refine And.intro (And.intro rfl rfl) ?_ | exact rfl
    · try simp only [if_neg h2]
      repeat' first | refine And.intro rfl ?_ | refine And.intro (Or.inl rfl) ?_ | refine And.intro (Or.inr rfl) ?_ | refine And.intro (Nat.le_of_ble_eq_true rfl) ?_ | refine And.intro (And.intro rfl rfl) ?_ | exact rfl
      refine And.intro (zz_vin (n := 80) h1 h2 (Nat.le_of_ble_eq_true rfl)) ?_
      repeat' first | refine And.intro rfl ?_ | refine And.intro (Or.inl rfl) ?_ | refine And.intro (Or.inr rfl) ?_ | refine And.intro (Nat.le_of_ble_eq_true rfl) ?_ | refine And.intro (And.intro rfl rfl) ?_ | exact rfl
      refine zs_183_23 ?_
      repeat' first | refine And.intro rfl ?_ | refine And.intro (Or.inl rfl) ?_ | refine And.intro (Or.inr rfl) ?_ | refine And.intro (Nat.le_of_ble_eq_true rfl) ?_ | refine And.intro (And.intro rfl rfl) ?_ | exact rfl
def zw_X11_addNumber (I : Nat → Nat → Int32) (J : Nat → Nat → Int64) (x : Int64) : Nat → Nat → Int32 := if (I 2 3) < 0 then I else (if (nI 12) ≤ (I 2 3) then I else (zz_u I 2 3 ((I 2 3) + 1)))
def zx_X11_addNumber (I : Nat → Nat → Int32) (J : Nat → Nat → Int64) (x : Int64) : Nat → Nat → Int64 := if (I 2 3) < 0 then J else (if (nI 12) ≤ (I 2 3) then J else (zz_u J 4 ((I 2 3).toNatClampNeg) x))
theorem zr_X11_addNumber (F : zz_F) (I : Nat → Nat → Int32) (J : Nat → Nat → Int64) (d : Nat) (x : Int64) : zz_run (d) 187 0 [some (.ref 2), some (.long (x)), none] [] (zz_S F I J) none (zz_S F (zw_X11_addNumber I J x) (zx_X11_addNumber I J x)) := by
  unfold zw_X11_addNumber zx_X11_addNumber
  refine zs_187_0 ?_
  repeat' first | refine And.intro rfl ?_ | refine And.intro (Or.inl rfl) ?_ | refine And.intro (Or.inr rfl) ?_ | refine And.intro (Nat.le_of_ble_eq_true rfl) ?_ | refine And.intro (And.intro rfl rfl) ?_ | exact rfl
  refine And.intro (fun (h1 : (I 2 3) < 0) => ?_) (fun (h1 : ¬ ((I 2 3) < 0)) => ?_)
  · try simp only [if_pos h1]
    refine zs_187_39 ?_
    repeat' first | refine And.intro rfl ?_ | refine And.intro (Or.inl rfl) ?_ | refine And.intro (Or.inr rfl) ?_ | refine And.intro (Nat.le_of_ble_eq_true rfl) ?_ | refine And.intro (And.intro rfl rfl) ?_ | exact rfl
  · try simp only [if_neg h1]
    repeat' first | refine And.intro rfl ?_ | refine And.intro (Or.inl rfl) ?_ | refine And.intro (Or.inr rfl) ?_ | refine And.intro (Nat.le_of_ble_eq_true rfl) ?_ | refine And.intro (And.intro rfl rfl) ?_ | exact rfl
    refine And.intro (fun (h2 : (nI 12) ≤ (I 2 3)) => ?_) (fun (h2 : ¬ ((nI 12) ≤ (I 2 3))) => ?_)
    · try simp only [if_pos h2]
      refine zs_187_39 ?_
      repeat' first | refine And.intro rfl ?_ | refine And.intro (Or.inl rfl) ?_ | refine And.intro (Or.inr rfl) ?_ | refine And.intro (Nat.le_of_ble_eq_true rfl) ?_ | refine And.intro (And.intro rfl rfl) ?_ | exact rfl
    · try simp only [if_neg h2]
      repeat' first | refine And.intro rfl ?_ | refine And.intro (Or.inl rfl) ?_ | refine And.intro (Or.inr rfl) ?_ | refine And.intro (Nat.le_of_ble_eq_true rfl) ?_ | refine And.intro (And.intro rfl rfl) ?_ | exact rfl
      refine And.intro (zz_vin (n := 12) h1 h2 (Nat.le_of_ble_eq_true rfl)) ?_
      repeat' first | refine And.intro rfl ?_ | refine And.intro (Or.inl rfl) ?_ | refine And.intro (Or.inr rfl) ?_ | refine And.intro (Nat.le_of_ble_eq_true rfl) ?_ | refine And.intro (And.intro rfl rfl) ?_ | exact rfl
      refine zs_187_39 ?_
      repeat' first | refine And.intro rfl ?_ | refine And.intro (Or.inl rfl) ?_ | refine And.intro (Or.inr rfl) ?_ | refine And.intro (Nat.le_of_ble_eq_true rfl) ?_ | refine And.intro (And.intro rfl rfl) ?_ | exact rfl
def zv_X11_playNotLast (I : Nat → Nat → Int32)  : Int32 := if (zv_X9_has I (I 8 1)) = 0 then 0 else (1 - (zz_f I (I 8 1) 0))
theorem zr_X11_playNotLast (F : zz_F) (I : Nat → Nat → Int32) (J : Nat → Nat → Int64) (d : Nat)  : zz_run (d+1) 191 0 [some (.ref 2)] [] (zz_S F I J) (some (.int (zv_X11_playNotLast I))) (zz_S F (I) (J)) := by
  unfold zv_X11_playNotLast
  refine zs_191_0 ?_
  repeat' first | refine And.intro rfl ?_ | refine And.intro (Or.inl rfl) ?_ | refine And.intro (Or.inr rfl) ?_ | refine And.intro (Nat.le_of_ble_eq_true rfl) ?_ | refine And.intro (And.intro rfl rfl) ?_ | exact rfl
  refine Exists.intro _ (Exists.intro _ (And.intro (zr_X9_has F I J d (I 8 1)) ?_))
  repeat' first | refine And.intro rfl ?_ | refine And.intro (Or.inl rfl) ?_ | refine And.intro (Or.inr rfl) ?_ | refine And.intro (Nat.le_of_ble_eq_true rfl) ?_ | refine And.intro (And.intro rfl rfl) ?_ | exact rfl
  refine And.intro (fun (h1 : (zv_X9_has I (I 8 1)) = 0) => ?_) (fun (h1 : ¬ ((zv_X9_has I (I 8 1)) = 0)) => ?_)
  · try simp only [if_pos h1]
    refine zs_191_37 ?_
    repeat' first | refine And.intro rfl ?_ | refine And.intro (Or.inl rfl) ?_ | refine And.intro (Or.inr rfl) ?_ | refine And.intro (Nat.le_of_ble_eq_true rfl) ?_ | refine And.intro (And.intro rfl rfl) ?_ | exact rfl
    refine zs_191_38 ?_
    repeat' first | refine And.intro rfl ?_ | refine And.intro (Or.inl rfl) ?_ | refine And.intro (Or.inr rfl) ?_ | refine And.intro (Nat.le_of_ble_eq_true rfl) ?_ | refine And.intro (And.intro rfl rfl) ?_ | exact rfl
  · try simp only [if_neg h1]
    repeat' first | refine And.intro rfl ?_ | refine And.intro (Or.inl rfl) ?_ | refine And.intro (Or.inr rfl) ?_ | refine And.intro (Nat.le_of_ble_eq_true rfl) ?_ | refine And.intro (And.intro rfl rfl) ?_ | exact rfl
    refine Exists.intro _ (Exists.intro _ (And.intro (zr_of F I J d (I 8 1) 0) ?_))
    repeat' first | refine And.intro rfl ?_ | refine And.intro (Or.inl rfl) ?_ | refine And.intro (Or.inr rfl) ?_ | refine And.intro (Nat.le_of_ble_eq_true rfl) ?_ | refine And.intro (And.intro rfl rfl) ?_ | exact rfl
    refine zs_191_38 ?_
    repeat' first | refine And.intro rfl ?_ | refine And.intro (Or.inl rfl) ?_ | refine And.intro (Or.inr rfl) ?_ | refine And.intro (Nat.le_of_ble_eq_true rfl) ?_ | refine And.intro (And.intro rfl rfl) ?_ | exact rfl
def zv_X11_refusalToDrop (I : Nat → Nat → Int32) (x : Int32) : Int32 := if ¬ (zv_X9_has I x) = 0 then (if ¬ ((I 8 2) &&& (1 <<< (x &&& 31))) = 0 then 0 else ((-2))) else ((-1))
theorem zr_X11_refusalToDrop (F : zz_F) (I : Nat → Nat → Int32) (J : Nat → Nat → Int64) (d : Nat) (x : Int32) : zz_run (d+1) 194 0 [some (.ref 2), some (.int (x))] [] (zz_S F I J) (some (.int (zv_X11_refusalToDrop I x))) (zz_S F (I) (J)) := by
  unfold zv_X11_refusalToDrop
  refine zs_194_0 ?_
  repeat' first | refine And.intro rfl ?_ | refine And.intro (Or.inl rfl) ?_ | refine And.intro (Or.inr rfl) ?_ | refine And.intro (Nat.le_of_ble_eq_true rfl) ?_ | refine And.intro (And.intro rfl rfl) ?_ | exact rfl
  refine Exists.intro _ (Exists.intro _ (And.intro (zr_X9_has F I J d x) ?_))
  repeat' first | refine And.intro rfl ?_ | refine And.intro (Or.inl rfl) ?_ | refine And.intro (Or.inr rfl) ?_ | refine And.intro (Nat.le_of_ble_eq_true rfl) ?_ | refine And.intro (And.intro rfl rfl) ?_ | exact rfl
  refine And.intro (fun (h1 : ¬ (zv_X9_has I x) = 0) => ?_) (fun (h1 : ¬ (¬ (zv_X9_has I x) = 0)) => ?_)
  · try simp only [if_pos h1]
    refine zs_194_13 ?_
    repeat' first | refine And.intro rfl ?_ | refine And.intro (Or.inl rfl) ?_ | refine And.intro (Or.inr rfl) ?_ | refine And.intro (Nat.le_of_ble_eq_true rfl) ?_ | refine And.intro (And.intro rfl rfl) ?_ | exact rfl
    refine And.intro (fun (h2 : ¬ ((I 8 2) &&& (1 <<< (x &&& 31))) = 0) => ?_) (fun (h2 : ¬ (¬ ((I 8 2) &&& (1 <<< (x &&& 31))) = 0)) => ?_)
    · try simp only [if_pos h2]
      refine zs_194_32 ?_
      repeat' first | refine And.intro rfl ?_ | refine And.intro (Or.inl rfl) ?_ | refine And.intro (Or.inr rfl) ?_ | refine And.intro (Nat.le_of_ble_eq_true rfl) ?_ | refine And.intro (And.intro rfl rfl) ?_ | exact rfl
      refine zs_194_33 ?_
      repeat' first | refine And.intro rfl ?_ | refine And.intro (Or.inl rfl) ?_ | refine And.intro (Or.inr rfl) ?_ | refine And.intro (Nat.le_of_ble_eq_true rfl) ?_ | refine And.intro (And.intro rfl rfl) ?_ | exact rfl
    · try simp only [if_neg h2]
      repeat' first | refine And.intro rfl ?_ | refine And.intro (Or.inl rfl) ?_ | refine And.intro (Or.inr rfl) ?_ | refine And.intro (Nat.le_of_ble_eq_true rfl) ?_ | refine And.intro (And.intro rfl rfl) ?_ | exact rfl
      refine zs_194_33 ?_
      repeat' first | refine And.intro rfl ?_ | refine And.intro (Or.inl rfl) ?_ | refine And.intro (Or.inr rfl) ?_ | refine And.intro (Nat.le_of_ble_eq_true rfl) ?_ | refine And.intro (And.intro rfl rfl) ?_ | exact rfl
  · try simp only [if_neg h1]
    repeat' first | refine And.intro rfl ?_ | refine And.intro (Or.inl rfl) ?_ | refine And.intro (Or.inr rfl) ?_ | refine And.intro (Nat.le_of_ble_eq_true rfl) ?_ | refine And.intro (And.intro rfl rfl) ?_ | exact rfl
def zv_X12_thrown (I : Nat → Nat → Int32)  : Int32 := I 52 7
theorem zr_X12_thrown (F : zz_F) (I : Nat → Nat → Int32) (J : Nat → Nat → Int64) (d : Nat)  : zz_run (d) 200 0 [some (.ref 52)] [] (zz_S F I J) (some (.int (zv_X12_thrown I))) (zz_S F (I) (J)) := by
  unfold zv_X12_thrown
  refine zs_200_0 ?_
  repeat' first | refine And.intro rfl ?_ | refine And.intro (Or.inl rfl) ?_ | refine And.intro (Or.inr rfl) ?_ | refine And.intro (Nat.le_of_ble_eq_true rfl) ?_ | refine And.intro (And.intro rfl rfl) ?_ | exact rfl
def zv_X12_in (x : Int32) (y : Int32) (z : Int32) : Int32 := if x < y then 0 else (if z < x then 0 else 1)
theorem zr_X12_in (F : zz_F) (I : Nat → Nat → Int32) (J : Nat → Nat → Int64) (d : Nat) (x : Int32) (y : Int32) (z : Int32) : zz_run (d) 201 0 [some (.int (x)), some (.int (y)), some (.int (z))] [] (zz_S F I J) (some (.int (zv_X12_in x y z))) (zz_S F (I) (J)) := by
  unfold zv_X12_in
  refine zs_201_0 ?_
  repeat' first | refine And.intro rfl ?_ | refine And.intro (Or.inl rfl) ?_ | refine And.intro (Or.inr rfl) ?_ | refine And.intro (Nat.le_of_ble_eq_true rfl) ?_ | refine And.intro (And.intro rfl rfl) ?_ | exact rfl
  refine And.intro (fun (h1 : x < y) => ?_) (fun (h1 : ¬ (x < y)) => ?_)
  · try simp only [if_pos h1]
    refine zs_201_14 ?_
    repeat' first | refine And.intro rfl ?_ | refine And.intro (Or.inl rfl) ?_ | refine And.intro (Or.inr rfl) ?_ | refine And.intro (Nat.le_of_ble_eq_true rfl) ?_ | refine And.intro (And.intro rfl rfl) ?_ | exact rfl
    refine zs_201_15 ?_
    repeat' first | refine And.intro rfl ?_ | refine And.intro (Or.inl rfl) ?_ | refine And.intro (Or.inr rfl) ?_ | refine And.intro (Nat.le_of_ble_eq_true rfl) ?_ | refine And.intro (And.intro rfl rfl) ?_ | exact rfl
  · try simp only [if_neg h1]
    repeat' first | refine And.intro rfl ?_ | refine And.intro (Or.inl rfl) ?_ | refine And.intro (Or.inr rfl) ?_ | refine And.intro (Nat.le_of_ble_eq_true rfl) ?_ | refine And.intro (And.intro rfl rfl) ?_ | exact rfl
    refine And.intro (fun (h2 : z < x) => ?_) (fun (h2 : ¬ (z < x)) => ?_)
    · try simp only [if_pos h2]
      refine zs_201_14 ?_
      repeat' first | refine And.intro rfl ?_ | refine And.intro (Or.inl rfl) ?_ | refine And.intro (Or.inr rfl) ?_ | refine And.intro (Nat.le_of_ble_eq_true rfl) ?_ | refine And.intro (And.intro rfl rfl) ?_ | exact rfl
      refine zs_201_15 ?_
      repeat' first | refine And.intro rfl ?_ | refine And.intro (Or.inl rfl) ?_ | refine And.intro (Or.inr rfl) ?_ | refine And.intro (Nat.le_of_ble_eq_true rfl) ?_ | refine And.intro (And.intro rfl rfl) ?_ | exact rfl
    · try simp only [if_neg h2]
      repeat' first | refine And.intro rfl ?_ | refine And.intro (Or.inl rfl) ?_ | refine And.intro (Or.inr rfl) ?_ | refine And.intro (Nat.le_of_ble_eq_true rfl) ?_ | refine And.intro (And.intro rfl rfl) ?_ | exact rfl
      refine zs_201_15 ?_
      repeat' first | refine And.intro rfl ?_ | refine And.intro (Or.inl rfl) ?_ | refine And.intro (Or.inr rfl) ?_ | refine And.intro (Nat.le_of_ble_eq_true rfl) ?_ | refine And.intro (And.intro rfl rfl) ?_ | exact rfl
theorem zb_X12_in (x : Int32) (y : Int32) (z : Int32) : zv_X12_in x y z = 0 ∨ zv_X12_in x y z = 1 := by
  unfold zv_X12_in
  repeat' first | split | exact Or.inl rfl | exact Or.inr rfl
def zv_X12_has (x : Int32) (y : Int32) : Int32 := if ¬ ((x >>> (y &&& 31)) &&& 1) = 1 then 0 else 1
theorem zr_X12_has (F : zz_F) (I : Nat → Nat → Int32) (J : Nat → Nat → Int64) (d : Nat) (x : Int32) (y : Int32) : zz_run (d) 202 0 [some (.int (x)), some (.int (y))] [] (zz_S F I J) (some (.int (zv_X12_has x y))) (zz_S F (I) (J)) := by
  unfold zv_X12_has
  refine zs_202_0 ?_
  repeat' first | refine And.intro rfl ?_ | refine And.intro (Or.inl rfl) ?_ | refine And.intro (Or.inr rfl) ?_ | refine And.intro (Nat.le_of_ble_eq_true rfl) ?_ | refine And.intro (And.intro rfl rfl) ?_ | exact rfl
  refine And.intro (fun (h1 : ¬ ((x >>> (y &&& 31)) &&& 1) = 1) => ?_) (fun (h1 : ¬ (¬ ((x >>> (y &&& 31)) &&& 1) = 1)) => ?_)
  · try simp only [if_pos h1]
    refine zs_202_13 ?_
    repeat' first | refine And.intro rfl ?_ | refine And.intro (Or.inl rfl) ?_ | refine And.intro (Or.inr rfl) ?_ | refine And.intro (Nat.le_of_ble_eq_true rfl) ?_ | refine And.intro (And.intro rfl rfl) ?_ | exact rfl
    refine zs_202_14 ?_
    repeat' first | refine And.intro rfl ?_ | refine And.intro (Or.inl rfl) ?_ | refine And.intro (Or.inr rfl) ?_ | refine And.intro (Nat.le_of_ble_eq_true rfl) ?_ | refine And.intro (And.intro rfl rfl) ?_ | exact rfl
  · try simp only [if_neg h1]
    repeat' first | refine And.intro rfl ?_ | refine And.intro (Or.inl rfl) ?_ | refine And.intro (Or.inr rfl) ?_ | refine And.intro (Nat.le_of_ble_eq_true rfl) ?_ | refine And.intro (And.intro rfl rfl) ?_ | exact rfl
    refine zs_202_14 ?_
    repeat' first | refine And.intro rfl ?_ | refine And.intro (Or.inl rfl) ?_ | refine And.intro (Or.inr rfl) ?_ | refine And.intro (Nat.le_of_ble_eq_true rfl) ?_ | refine And.intro (And.intro rfl rfl) ?_ | exact rfl
theorem zb_X12_has (x : Int32) (y : Int32) : zv_X12_has x y = 0 ∨ zv_X12_has x y = 1 := by
  unfold zv_X12_has
  repeat' first | split | exact Or.inl rfl | exact Or.inr rfl
def zv_X12_lost (I : Nat → Nat → Int32)  : Int32 := 0
def zw_X12_lost (I : Nat → Nat → Int32)  : Nat → Nat → Int32 := zz_u I 52 7 1
theorem zr_X12_lost (F : zz_F) (I : Nat → Nat → Int32) (J : Nat → Nat → Int64) (d : Nat)  : zz_run (d) 203 0 [some (.ref 52)] [] (zz_S F I J) (some (.int (zv_X12_lost I))) (zz_S F (zw_X12_lost I) (J)) := by
  unfold zv_X12_lost zw_X12_lost
  refine zs_203_0 ?_
  repeat' first | refine And.intro rfl ?_ | refine And.intro (Or.inl rfl) ?_ | refine And.intro (Or.inr rfl) ?_ | refine And.intro (Nat.le_of_ble_eq_true rfl) ?_ | refine And.intro (And.intro rfl rfl) ?_ | exact rfl
def zw_X12_tell (I : Nat → Nat → Int32) (J : Nat → Nat → Int64) (x : Int64) : Nat → Nat → Int32 := zz_u I 52 6 ((I 52 6) + 1)
def zx_X12_tell (I : Nat → Nat → Int32) (J : Nat → Nat → Int64) (x : Int64) : Nat → Nat → Int64 := zz_u J 56 ((I 52 6).toNatClampNeg) x
theorem zr_X12_tell (F : zz_F) (I : Nat → Nat → Int32) (J : Nat → Nat → Int64) (d : Nat) (x : Int64) (k1 : (vp_in (I 52 6) 20)) : zz_run (d) 204 0 [some (.ref 52), some (.long (x)), none] [] (zz_S F I J) none (zz_S F (zw_X12_tell I J x) (zx_X12_tell I J x)) := by
  unfold zw_X12_tell zx_X12_tell
  refine zs_204_0 ?_
  repeat' first | refine And.intro rfl ?_ | refine And.intro (Or.inl rfl) ?_ | refine And.intro (Or.inr rfl) ?_ | refine And.intro (Nat.le_of_ble_eq_true rfl) ?_ | refine And.intro (And.intro rfl rfl) ?_ | exact rfl
  refine And.intro (k1) ?_
  repeat' first | refine And.intro rfl ?_ | refine And.intro (Or.inl rfl) ?_ | refine And.intro (Or.inr rfl) ?_ | refine And.intro (Nat.le_of_ble_eq_true rfl) ?_ | refine And.intro (And.intro rfl rfl) ?_ | exact rfl
def zv_X12_isScene (I : Nat → Nat → Int32) (x : Int32) : Int32 := zv_X12_in x 0 ((I 52 1) - 1)
theorem zr_X12_isScene (F : zz_F) (I : Nat → Nat → Int32) (J : Nat → Nat → Int64) (d : Nat) (x : Int32) : zz_run (d+1) 205 0 [some (.ref 52), some (.int (x))] [] (zz_S F I J) (some (.int (zv_X12_isScene I x))) (zz_S F (I) (J)) := by
  unfold zv_X12_isScene
  refine zs_205_0 ?_
  repeat' first | refine And.intro rfl ?_ | refine And.intro (Or.inl rfl) ?_ | refine And.intro (Or.inr rfl) ?_ | refine And.intro (Nat.le_of_ble_eq_true rfl) ?_ | refine And.intro (And.intro rfl rfl) ?_ | exact rfl
  refine Exists.intro _ (Exists.intro _ (And.intro (zr_X12_in F I J d x 0 ((I 52 1) - 1)) ?_))
  repeat' first | refine And.intro rfl ?_ | refine And.intro (Or.inl rfl) ?_ | refine And.intro (Or.inr rfl) ?_ | refine And.intro (Nat.le_of_ble_eq_true rfl) ?_ | refine And.intro (And.intro rfl rfl) ?_ | exact rfl
  exact zz_nb (zb_X12_in x 0 ((I 52 1) - 1))
theorem zb_X12_isScene (I : Nat → Nat → Int32) (x : Int32) : zv_X12_isScene I x = 0 ∨ zv_X12_isScene I x = 1 := by
  unfold zv_X12_isScene
  repeat' first | split | exact Or.inl rfl | exact Or.inr rfl | exact zb_X12_in x 0 ((I 52 1) - 1)
def zv_X12_isPlay (x : Int32) : Int32 := zv_X12_in x 0 1
theorem zr_X12_isPlay (F : zz_F) (I : Nat → Nat → Int32) (J : Nat → Nat → Int64) (d : Nat) (x : Int32) : zz_run (d+1) 206 0 [some (.int (x))] [] (zz_S F I J) (some (.int (zv_X12_isPlay x))) (zz_S F (I) (J)) := by
  unfold zv_X12_isPlay
  refine zs_206_0 ?_
  repeat' first | refine And.intro rfl ?_ | refine And.intro (Or.inl rfl) ?_ | refine And.intro (Or.inr rfl) ?_ | refine And.intro (Nat.le_of_ble_eq_true rfl) ?_ | refine And.intro (And.intro rfl rfl) ?_ | exact rfl
  refine Exists.intro _ (Exists.intro _ (And.intro (zr_X12_in F I J d x 0 1) ?_))
  repeat' first | refine And.intro rfl ?_ | refine And.intro (Or.inl rfl) ?_ | refine And.intro (Or.inr rfl) ?_ | refine And.intro (Nat.le_of_ble_eq_true rfl) ?_ | refine And.intro (And.intro rfl rfl) ?_ | exact rfl
  exact zz_nb (zb_X12_in x 0 1)
theorem zb_X12_isPlay (x : Int32) : zv_X12_isPlay x = 0 ∨ zv_X12_isPlay x = 1 := by
  unfold zv_X12_isPlay
  repeat' first | split | exact Or.inl rfl | exact Or.inr rfl | exact zb_X12_in x 0 1
def zv_X12_field (I : Nat → Nat → Int32) (x : Int32) (y : Int32) : Int32 := I 54 (((7 * x) + y).toNatClampNeg)
theorem zr_X12_field (F : zz_F) (I : Nat → Nat → Int32) (J : Nat → Nat → Int64) (d : Nat) (x : Int32) (y : Int32) (k1 : (vp_in ((7 * x) + y) 84)) : zz_run (d) 207 0 [some (.ref 52), some (.int (x)), some (.int (y))] [] (zz_S F I J) (some (.int (zv_X12_field I x y))) (zz_S F (I) (J)) := by
  unfold zv_X12_field
  refine zs_207_0 ?_
  repeat' first | refine And.intro rfl ?_ | refine And.intro (Or.inl rfl) ?_ | refine And.intro (Or.inr rfl) ?_ | refine And.intro (Nat.le_of_ble_eq_true rfl) ?_ | refine And.intro (And.intro rfl rfl) ?_ | exact rfl
  refine And.intro (k1) ?_
  repeat' first | refine And.intro rfl ?_ | refine And.intro (Or.inl rfl) ?_ | refine And.intro (Or.inr rfl) ?_ | refine And.intro (Nat.le_of_ble_eq_true rfl) ?_ | refine And.intro (And.intro rfl rfl) ?_ | exact rfl
def zv_X12_playOf (I : Nat → Nat → Int32) (x : Int32) : Int32 := zv_X12_field I x 0
theorem zr_X12_playOf (F : zz_F) (I : Nat → Nat → Int32) (J : Nat → Nat → Int64) (d : Nat) (x : Int32) (k1 : (vp_in ((7 * x) + 0) 84)) : zz_run (d+1) 208 0 [some (.ref 52), some (.int (x))] [] (zz_S F I J) (some (.int (zv_X12_playOf I x))) (zz_S F (I) (J)) := by
  unfold zv_X12_playOf
  refine zs_208_0 ?_
  repeat' first | refine And.intro rfl ?_ | refine And.intro (Or.inl rfl) ?_ | refine And.intro (Or.inr rfl) ?_ | refine And.intro (Nat.le_of_ble_eq_true rfl) ?_ | refine And.intro (And.intro rfl rfl) ?_ | exact rfl
  refine Exists.intro _ (Exists.intro _ (And.intro (zr_X12_field F I J d x 0 k1) ?_))
  repeat' first | refine And.intro rfl ?_ | refine And.intro (Or.inl rfl) ?_ | refine And.intro (Or.inr rfl) ?_ | refine And.intro (Nat.le_of_ble_eq_true rfl) ?_ | refine And.intro (And.intro rfl rfl) ?_ | exact rfl
def zv_X12_end (I : Nat → Nat → Int32) (x : Int32) : Int32 := if ¬ (zv_X12_in x 0 (I 52 4)) = 0 then 1 else 0
def zw_X12_end (I : Nat → Nat → Int32) (x : Int32) : Nat → Nat → Int32 := if ¬ (zv_X12_in x 0 (I 52 4)) = 0 then (zz_u (zz_u I 52 7 0) 52 4 x) else (zz_u I 52 7 0)
theorem zr_X12_end (F : zz_F) (I : Nat → Nat → Int32) (J : Nat → Nat → Int64) (d : Nat) (x : Int32) : zz_run (d+1) 210 0 [some (.ref 52), some (.int (x))] [] (zz_S F I J) (some (.int (zv_X12_end I x))) (zz_S F (zw_X12_end I x) (J)) := by
  unfold zv_X12_end zw_X12_end
  refine zs_210_0 ?_
  repeat' first | refine And.intro rfl ?_ | refine And.intro (Or.inl rfl) ?_ | refine And.intro (Or.inr rfl) ?_ | refine And.intro (Nat.le_of_ble_eq_true rfl) ?_ | refine And.intro (And.intro rfl rfl) ?_ | exact rfl
  refine Exists.intro _ (Exists.intro _ (And.intro (zr_X12_in F (zz_u I 52 7 0) J d x 0 (I 52 4)) ?_))
  repeat' first | refine And.intro rfl ?_ | refine And.intro (Or.inl rfl) ?_ | refine And.intro (Or.inr rfl) ?_ | refine And.intro (Nat.le_of_ble_eq_true rfl) ?_ | refine And.intro (And.intro rfl rfl) ?_ | exact rfl
  refine And.intro (fun (h1 : ¬ (zv_X12_in x 0 (I 52 4)) = 0) => ?_) (fun (h1 : ¬ (¬ (zv_X12_in x 0 (I 52 4)) = 0)) => ?_)
  · try simp only [if_pos h1]
    refine zs_210_19 ?_
    repeat' first | refine And.intro rfl ?_ | refine And.intro (Or.inl rfl) ?_ | refine And.intro (Or.inr rfl) ?_ | refine And.intro (Nat.le_of_ble_eq_true rfl) ?_ | refine And.intro (And.intro rfl rfl) ?_ | exact rfl
  · try simp only [if_neg h1]
    repeat' first | refine And.intro rfl ?_ | refine And.intro (Or.inl rfl) ?_ | refine And.intro (Or.inr rfl) ?_ | refine And.intro (Nat.le_of_ble_eq_true rfl) ?_ | refine And.intro (And.intro rfl rfl) ?_ | exact rfl
theorem zb_X12_end (I : Nat → Nat → Int32) (x : Int32) : zv_X12_end I x = 0 ∨ zv_X12_end I x = 1 := by
  unfold zv_X12_end
  repeat' first | split | exact Or.inl rfl | exact Or.inr rfl
def zv_X12_fine (I : Nat → Nat → Int32)  : Int32 := if ¬ (I 52 12) = ((-1)) then 0 else 1
theorem zr_X12_fine (F : zz_F) (I : Nat → Nat → Int32) (J : Nat → Nat → Int64) (d : Nat)  : zz_run (d) 214 0 [some (.ref 52)] [] (zz_S F I J) (some (.int (zv_X12_fine I))) (zz_S F (I) (J)) := by
  unfold zv_X12_fine
  refine zs_214_0 ?_
  repeat' first | refine And.intro rfl ?_ | refine And.intro (Or.inl rfl) ?_ | refine And.intro (Or.inr rfl) ?_ | refine And.intro (Nat.le_of_ble_eq_true rfl) ?_ | refine And.intro (And.intro rfl rfl) ?_ | exact rfl
  refine And.intro (fun (h1 : ¬ (I 52 12) = ((-1))) => ?_) (fun (h1 : ¬ (¬ (I 52 12) = ((-1)))) => ?_)
  · try simp only [if_pos h1]
    refine zs_214_12 ?_
    repeat' first | refine And.intro rfl ?_ | refine And.intro (Or.inl rfl) ?_ | refine And.intro (Or.inr rfl) ?_ | refine And.intro (Nat.le_of_ble_eq_true rfl) ?_ | refine And.intro (And.intro rfl rfl) ?_ | exact rfl
    refine zs_214_13 ?_
    repeat' first | refine And.intro rfl ?_ | refine And.intro (Or.inl rfl) ?_ | refine And.intro (Or.inr rfl) ?_ | refine And.intro (Nat.le_of_ble_eq_true rfl) ?_ | refine And.intro (And.intro rfl rfl) ?_ | exact rfl
  · try simp only [if_neg h1]
    repeat' first | refine And.intro rfl ?_ | refine And.intro (Or.inl rfl) ?_ | refine And.intro (Or.inr rfl) ?_ | refine And.intro (Nat.le_of_ble_eq_true rfl) ?_ | refine And.intro (And.intro rfl rfl) ?_ | exact rfl
    refine zs_214_13 ?_
    repeat' first | refine And.intro rfl ?_ | refine And.intro (Or.inl rfl) ?_ | refine And.intro (Or.inr rfl) ?_ | refine And.intro (Nat.le_of_ble_eq_true rfl) ?_ | refine And.intro (And.intro rfl rfl) ?_ | exact rfl
theorem zb_X12_fine (I : Nat → Nat → Int32)  : zv_X12_fine I = 0 ∨ zv_X12_fine I = 1 := by
  unfold zv_X12_fine
  repeat' first | split | exact Or.inl rfl | exact Or.inr rfl
def zw_X12_fault (I : Nat → Nat → Int32) (x : Int32) : Nat → Nat → Int32 := if (zv_X12_fine I) = 0 then I else (zz_u I 52 12 x)
theorem zr_X12_fault (F : zz_F) (I : Nat → Nat → Int32) (J : Nat → Nat → Int64) (d : Nat) (x : Int32) : zz_run (d+1) 215 0 [some (.ref 52), some (.int (x))] [] (zz_S F I J) none (zz_S F (zw_X12_fault I x) (J)) := by
  unfold zw_X12_fault
  refine zs_215_0 ?_
  repeat' first | refine And.intro rfl ?_ | refine And.intro (Or.inl rfl) ?_ | refine And.intro (Or.inr rfl) ?_ | refine And.intro (Nat.le_of_ble_eq_true rfl) ?_ | refine And.intro (And.intro rfl rfl) ?_ | exact rfl
  refine Exists.intro _ (Exists.intro _ (And.intro (zr_X12_fine F I J d ) ?_))
  repeat' first | refine And.intro rfl ?_ | refine And.intro (Or.inl rfl) ?_ | refine And.intro (Or.inr rfl) ?_ | refine And.intro (Nat.le_of_ble_eq_true rfl) ?_ | refine And.intro (And.intro rfl rfl) ?_ | exact rfl
  refine And.intro (fun (h1 : (zv_X12_fine I) = 0) => ?_) (fun (h1 : ¬ ((zv_X12_fine I) = 0)) => ?_)
  · try simp only [if_pos h1]
    refine zs_215_12 ?_
    repeat' first | refine And.intro rfl ?_ | refine And.intro (Or.inl rfl) ?_ | refine And.intro (Or.inr rfl) ?_ | refine And.intro (Nat.le_of_ble_eq_true rfl) ?_ | refine And.intro (And.intro rfl rfl) ?_ | exact rfl
  · try simp only [if_neg h1]
    repeat' first | refine And.intro rfl ?_ | refine And.intro (Or.inl rfl) ?_ | refine And.intro (Or.inr rfl) ?_ | refine And.intro (Nat.le_of_ble_eq_true rfl) ?_ | refine And.intro (And.intro rfl rfl) ?_ | exact rfl
    refine zs_215_12 ?_
    repeat' first | refine And.intro rfl ?_ | refine And.intro (Or.inl rfl) ?_ | refine And.intro (Or.inr rfl) ?_ | refine And.intro (Nat.le_of_ble_eq_true rfl) ?_ | refine And.intro (And.intro rfl rfl) ?_ | exact rfl
def zv_X12_wasRight (I : Nat → Nat → Int32)  : Int32 := if (I 52 9) ≤ (I 52 11) then (zv_X12_fine I) else (zv_X12_fine (zw_X12_fault I (I 52 11)))
def zw_X12_wasRight (I : Nat → Nat → Int32)  : Nat → Nat → Int32 := if (I 52 9) ≤ (I 52 11) then I else (zw_X12_fault I (I 52 11))
theorem zr_X12_wasRight (F : zz_F) (I : Nat → Nat → Int32) (J : Nat → Nat → Int64) (d : Nat)  : zz_run (d+2) 221 0 [some (.ref 52)] [] (zz_S F I J) (some (.int (zv_X12_wasRight I))) (zz_S F (zw_X12_wasRight I) (J)) := by
  unfold zv_X12_wasRight zw_X12_wasRight
  refine zs_221_0 ?_
  repeat' first | refine And.intro rfl ?_ | refine And.intro (Or.inl rfl) ?_ | refine And.intro (Or.inr rfl) ?_ | refine And.intro (Nat.le_of_ble_eq_true rfl) ?_ | refine And.intro (And.intro rfl rfl) ?_ | exact rfl
  refine And.intro (fun (h1 : (I 52 9) ≤ (I 52 11)) => ?_) (fun (h1 : ¬ ((I 52 9) ≤ (I 52 11))) => ?_)
  · try simp only [if_pos h1]
    refine zs_221_19 ?_
    repeat' first | refine And.intro rfl ?_ | refine And.intro (Or.inl rfl) ?_ | refine And.intro (Or.inr rfl) ?_ | refine And.intro (Nat.le_of_ble_eq_true rfl) ?_ | refine And.intro (And.intro rfl rfl) ?_ | exact rfl
    refine Exists.intro _ (Exists.intro _ (And.intro (zr_X12_fine F I J (d+1) ) ?_))
    repeat' first | refine And.intro rfl ?_ | refine And.intro (Or.inl rfl) ?_ | refine And.intro (Or.inr rfl) ?_ | refine And.intro (Nat.le_of_ble_eq_true rfl) ?_ | refine And.intro (And.intro rfl rfl) ?_ | exact rfl
    exact zz_nb (zb_X12_fine I)
  · try simp only [if_neg h1]
    repeat' first | refine And.intro rfl ?_ | refine And.intro (Or.inl rfl) ?_ | refine And.intro (Or.inr rfl) ?_ | refine And.intro (Nat.le_of_ble_eq_true rfl) ?_ | refine And.intro (And.intro rfl rfl) ?_ | exact rfl
    refine Exists.intro _ (Exists.intro _ (And.intro (zr_X12_fault F I J d (I 52 11)) ?_))
    repeat' first | refine And.intro rfl ?_ | refine And.intro (Or.inl rfl) ?_ | refine And.intro (Or.inr rfl) ?_ | refine And.intro (Nat.le_of_ble_eq_true rfl) ?_ | refine And.intro (And.intro rfl rfl) ?_ | exact rfl
    refine zs_221_19 ?_
    repeat' first | refine And.intro rfl ?_ | refine And.intro (Or.inl rfl) ?_ | refine And.intro (Or.inr rfl) ?_ | refine And.intro (Nat.le_of_ble_eq_true rfl) ?_ | refine And.intro (And.intro rfl rfl) ?_ | exact rfl
    refine Exists.intro _ (Exists.intro _ (And.intro (zr_X12_fine F (zw_X12_fault I (I 52 11)) J (d+1) ) ?_))
    repeat' first | refine And.intro rfl ?_ | refine And.intro (Or.inl rfl) ?_ | refine And.intro (Or.inr rfl) ?_ | refine And.intro (Nat.le_of_ble_eq_true rfl) ?_ | refine And.intro (And.intro rfl rfl) ?_ | exact rfl
    exact zz_nb (zb_X12_fine (zw_X12_fault I (I 52 11)))
theorem zb_X12_wasRight (I : Nat → Nat → Int32)  : zv_X12_wasRight I = 0 ∨ zv_X12_wasRight I = 1 := by
  unfold zv_X12_wasRight
  repeat' first | split | exact Or.inl rfl | exact Or.inr rfl | exact zb_X12_fine I | exact zb_X12_fine (zw_X12_fault I (I 52 11))
def zv_X12_letterOf (x : Int32) : Int32 := if ¬ x = 111 then (if ¬ x = 112 then (if ¬ x = 113 then (if ¬ x = 109 then (if ¬ x = 108 then (if ¬ x = 115 then ((-1)) else 5) else 4) else 3) else 2) else 1) else 0
theorem zr_X12_letterOf (F : zz_F) (I : Nat → Nat → Int32) (J : Nat → Nat → Int64) (d : Nat) (x : Int32) : zz_run (d) 227 0 [some (.int (x))] [] (zz_S F I J) (some (.int (zv_X12_letterOf x))) (zz_S F (I) (J)) := by
  unfold zv_X12_letterOf
  refine zs_227_0 ?_
  repeat' first | refine And.intro rfl ?_ | refine And.intro (Or.inl rfl) ?_ | refine And.intro (Or.inr rfl) ?_ | refine And.intro (Nat.le_of_ble_eq_true rfl) ?_ | refine And.intro (And.intro rfl rfl) ?_ | exact rfl
  refine And.intro (fun (h1 : ¬ x = 111) => ?_) (fun (h1 : ¬ (¬ x = 111)) => ?_)
  · try simp only [if_pos h1]
    refine zs_227_10 ?_
    repeat' first | refine And.intro rfl ?_ | refine And.intro (Or.inl rfl) ?_ | refine And.intro (Or.inr rfl) ?_ | refine And.intro (Nat.le_of_ble_eq_true rfl) ?_ | refine And.intro (And.intro rfl rfl) ?_ | exact rfl
    refine And.intro (fun (h2 : ¬ x = 112) => ?_) (fun (h2 : ¬ (¬ x = 112)) => ?_)
    · try simp only [if_pos h2]
      refine zs_227_20 ?_
      repeat' first | refine And.intro rfl ?_ | refine And.intro (Or.inl rfl) ?_ | refine And.intro (Or.inr rfl) ?_ | refine And.intro (Nat.le_of_ble_eq_true rfl) ?_ | refine And.intro (And.intro rfl rfl) ?_ | exact rfl
      refine And.intro (fun (h3 : ¬ x = 113) => ?_) (fun (h3 : ¬ (¬ x = 113)) => ?_)
      · try simp only [if_pos h3]
        refine zs_227_30 ?_
        repeat' first | refine And.intro rfl ?_ | refine And.intro (Or.inl rfl) ?_ | refine And.intro (Or.inr rfl) ?_ | refine And.intro (Nat.le_of_ble_eq_true rfl) ?_ | refine And.intro (And.intro rfl rfl) ?_ | exact rfl
        refine And.intro (fun (h4 : ¬ x = 109) => ?_) (fun (h4 : ¬ (¬ x = 109)) => ?_)
        · try simp only [if_pos h4]
          refine zs_227_40 ?_
          repeat' first | refine And.intro rfl ?_ | refine And.intro (Or.inl rfl) ?_ | refine And.intro (Or.inr rfl) ?_ | refine And.intro (Nat.le_of_ble_eq_true rfl) ?_ | refine And.intro (And.intro rfl rfl) ?_ | exact rfl
          refine And.intro (fun (h5 : ¬ x = 108) => ?_) (fun (h5 : ¬ (¬ x = 108)) => ?_)
          · try simp only [if_pos h5]
            refine zs_227_50 ?_
            repeat' first | refine And.intro rfl ?_ | refine And.intro (Or.inl rfl) ?_ | refine And.intro (Or.inr rfl) ?_ | refine And.intro (Nat.le_of_ble_eq_true rfl) ?_ | refine And.intro (And.intro rfl rfl) ?_ | exact rfl
            refine And.intro (fun (h6 : ¬ x = 115) => ?_) (fun (h6 : ¬ (¬ x = 115)) => ?_)
            · try simp only [if_pos h6]
              refine zs_227_60 ?_
              repeat' first | refine And.intro rfl ?_ | refine And.intro (Or.inl rfl) ?_ | refine And.intro (Or.inr rfl) ?_ | refine And.intro (Nat.le_of_ble_eq_true rfl) ?_ | refine And.intro (And.intro rfl rfl) ?_ | exact rfl
              refine zs_227_61 ?_
              repeat' first | refine And.intro rfl ?_ | refine And.intro (Or.inl rfl) ?_ | refine And.intro (Or.inr rfl) ?_ | refine And.intro (Nat.le_of_ble_eq_true rfl) ?_ | refine And.intro (And.intro rfl rfl) ?_ | exact rfl
            · try simp only [if_neg h6]
              repeat' first | refine And.intro rfl ?_ | refine And.intro (Or.inl rfl) ?_ | refine And.intro (Or.inr rfl) ?_ | refine And.intro (Nat.le_of_ble_eq_true rfl) ?_ | refine And.intro (And.intro rfl rfl) ?_ | exact rfl
              refine zs_227_61 ?_
              repeat' first | refine And.intro rfl ?_ | refine And.intro (Or.inl rfl) ?_ | refine And.intro (Or.inr rfl) ?_ | refine And.intro (Nat.le_of_ble_eq_true rfl) ?_ | refine And.intro (And.intro rfl rfl) ?_ | exact rfl
          · try simp only [if_neg h5]
            repeat' first | refine And.intro rfl ?_ | refine And.intro (Or.inl rfl) ?_ | refine And.intro (Or.inr rfl) ?_ | refine And.intro (Nat.le_of_ble_eq_true rfl) ?_ | refine And.intro (And.intro rfl rfl) ?_ | exact rfl
            refine zs_227_61 ?_
            repeat' first | refine And.intro rfl ?_ | refine And.intro (Or.inl rfl) ?_ | refine And.intro (Or.inr rfl) ?_ | refine And.intro (Nat.le_of_ble_eq_true rfl) ?_ | refine And.intro (And.intro rfl rfl) ?_ | exact rfl
        · try simp only [if_neg h4]
          repeat' first | refine And.intro rfl ?_ | refine And.intro (Or.inl rfl) ?_ | refine And.intro (Or.inr rfl) ?_ | refine And.intro (Nat.le_of_ble_eq_true rfl) ?_ | refine And.intro (And.intro rfl rfl) ?_ | exact rfl
          refine zs_227_61 ?_
          repeat' first | refine And.intro rfl ?_ | refine And.intro (Or.inl rfl) ?_ | refine And.intro (Or.inr rfl) ?_ | refine And.intro (Nat.le_of_ble_eq_true rfl) ?_ | refine And.intro (And.intro rfl rfl) ?_ | exact rfl
      · try simp only [if_neg h3]
        repeat' first | refine And.intro rfl ?_ | refine And.intro (Or.inl rfl) ?_ | refine And.intro (Or.inr rfl) ?_ | refine And.intro (Nat.le_of_ble_eq_true rfl) ?_ | refine And.intro (And.intro rfl rfl) ?_ | exact rfl
        refine zs_227_61 ?_
        repeat' first | refine And.intro rfl ?_ | refine And.intro (Or.inl rfl) ?_ | refine And.intro (Or.inr rfl) ?_ | refine And.intro (Nat.le_of_ble_eq_true rfl) ?_ | refine And.intro (And.intro rfl rfl) ?_ | exact rfl
    · try simp only [if_neg h2]
      repeat' first | refine And.intro rfl ?_ | refine And.intro (Or.inl rfl) ?_ | refine And.intro (Or.inr rfl) ?_ | refine And.intro (Nat.le_of_ble_eq_true rfl) ?_ | refine And.intro (And.intro rfl rfl) ?_ | exact rfl
      refine zs_227_61 ?_
      repeat' first | refine And.intro rfl ?_ | refine And.intro (Or.inl rfl) ?_ | refine And.intro (Or.inr rfl) ?_ | refine And.intro (Nat.le_of_ble_eq_true rfl) ?_ | refine And.intro (And.intro rfl rfl) ?_ | exact rfl
  · try simp only [if_neg h1]
    repeat' first | refine And.intro rfl ?_ | refine And.intro (Or.inl rfl) ?_ | refine And.intro (Or.inr rfl) ?_ | refine And.intro (Nat.le_of_ble_eq_true rfl) ?_ | refine And.intro (And.intro rfl rfl) ?_ | exact rfl
    refine zs_227_61 ?_
    repeat' first | refine And.intro rfl ?_ | refine And.intro (Or.inl rfl) ?_ | refine And.intro (Or.inr rfl) ?_ | refine And.intro (Nat.le_of_ble_eq_true rfl) ?_ | refine And.intro (And.intro rfl rfl) ?_ | exact rfl
def zv_X12_scene (I : Nat → Nat → Int32) (x : Int32) (y : Int32) : Int32 := if (zv_X12_isScene (zz_u I 52 7 0) x) = 0 then (zv_X12_lost (zz_u I 52 7 0)) else (if ¬ (zv_X12_in y 0 7) = 0 then (if 7 ≤ y then (I 53 x.toNatClampNeg) else (zv_X12_field (zz_u I 52 7 0) x y)) else (zv_X12_lost (zz_u I 52 7 0)))
def zw_X12_scene (I : Nat → Nat → Int32) (x : Int32) (y : Int32) : Nat → Nat → Int32 := if (zv_X12_isScene (zz_u I 52 7 0) x) = 0 then (zw_X12_lost (zz_u I 52 7 0)) else (if ¬ (zv_X12_in y 0 7) = 0 then (zz_u I 52 7 0) else (zw_X12_lost (zz_u I 52 7 0)))
theorem zr_X12_scene (F : zz_F) (I : Nat → Nat → Int32) (J : Nat → Nat → Int64) (d : Nat) (x : Int32) (y : Int32) (k1 : (¬ ((zv_X12_isScene (zz_u I 52 7 0) x) = 0)) → (¬ (zv_X12_in y 0 7) = 0) → (7 ≤ y) → (vp_in x 18)) (k2 : (¬ ((zv_X12_isScene (zz_u I 52 7 0) x) = 0)) → (¬ (zv_X12_in y 0 7) = 0) → (¬ (7 ≤ y)) → (vp_in ((7 * x) + y) 84)) : zz_run (d+2) 237 0 [some (.ref 52), some (.int (x)), some (.int (y))] [] (zz_S F I J) (some (.int (zv_X12_scene I x y))) (zz_S F (zw_X12_scene I x y) (J)) := by
  unfold zv_X12_scene zw_X12_scene
  refine zs_237_0 ?_
  repeat' first | refine And.intro rfl ?_ | refine And.intro (Or.inl rfl) ?_ | refine And.intro (Or.inr rfl) ?_ | refine And.intro (Nat.le_of_ble_eq_true rfl) ?_ | refine And.intro (And.intro rfl rfl) ?_ | exact rfl
  refine Exists.intro _ (Exists.intro _ (And.intro (zr_X12_isScene F (zz_u I 52 7 0) J d x) ?_))
  repeat' first | refine And.intro rfl ?_ | refine And.intro (Or.inl rfl) ?_ | refine And.intro (Or.inr rfl) ?_ | refine And.intro (Nat.le_of_ble_eq_true rfl) ?_ | refine And.intro (And.intro rfl rfl) ?_ | exact rfl
  refine And.intro (fun (h1 : (zv_X12_isScene (zz_u I 52 7 0) x) = 0) => ?_) (fun (h1 : ¬ ((zv_X12_isScene (zz_u I 52 7 0) x) = 0)) => ?_)
  · try simp only [if_pos h1]
    refine zs_237_23 ?_
    repeat' first | refine And.intro rfl ?_ | refine And.intro (Or.inl rfl) ?_ | refine And.intro (Or.inr rfl) ?_ | refine And.intro (Nat.le_of_ble_eq_true rfl) ?_ | refine And.intro (And.intro rfl rfl) ?_ | exact rfl
    refine Exists.intro _ (Exists.intro _ (And.intro (zr_X12_lost F (zz_u I 52 7 0) J (d+1) ) ?_))
    repeat' first | refine And.intro rfl ?_ | refine And.intro (Or.inl rfl) ?_ | refine And.intro (Or.inr rfl) ?_ | refine And.intro (Nat.le_of_ble_eq_true rfl) ?_ | refine And.intro (And.intro rfl rfl) ?_ | exact rfl
  · try simp only [if_neg h1]
    repeat' first | refine And.intro rfl ?_ | refine And.intro (Or.inl rfl) ?_ | refine And.intro (Or.inr rfl) ?_ | refine And.intro (Nat.le_of_ble_eq_true rfl) ?_ | refine And.intro (And.intro rfl rfl) ?_ | exact rfl
    refine Exists.intro _ (Exists.intro _ (And.intro (zr_X12_in F (zz_u I 52 7 0) J (d+1) y 0 7) ?_))
    repeat' first | refine And.intro rfl ?_ | refine And.intro (Or.inl rfl) ?_ | refine And.intro (Or.inr rfl) ?_ | refine And.intro (Nat.le_of_ble_eq_true rfl) ?_ | refine And.intro (And.intro rfl rfl) ?_ | exact rfl
    refine And.intro (fun (h2 : ¬ (zv_X12_in y 0 7) = 0) => ?_) (fun (h2 : ¬ (¬ (zv_X12_in y 0 7) = 0)) => ?_)
    · try simp only [if_pos h2]
      refine zs_237_28 ?_
      repeat' first | refine And.intro rfl ?_ | refine And.intro (Or.inl rfl) ?_ | refine And.intro (Or.inr rfl) ?_ | refine And.intro (Nat.le_of_ble_eq_true rfl) ?_ | refine And.intro (And.intro rfl rfl) ?_ | exact rfl
      refine And.intro (fun (h3 : 7 ≤ y) => ?_) (fun (h3 : ¬ (7 ≤ y)) => ?_)
      · try simp only [if_pos h3]
        refine zs_237_43 ?_
        repeat' first | refine And.intro rfl ?_ | refine And.intro (Or.inl rfl) ?_ | refine And.intro (Or.inr rfl) ?_ | refine And.intro (Nat.le_of_ble_eq_true rfl) ?_ | refine And.intro (And.intro rfl rfl) ?_ | exact rfl
        refine And.intro ((k1 h1 h2 h3)) ?_
        repeat' first | refine And.intro rfl ?_ | refine And.intro (Or.inl rfl) ?_ | refine And.intro (Or.inr rfl) ?_ | refine And.intro (Nat.le_of_ble_eq_true rfl) ?_ | refine And.intro (And.intro rfl rfl) ?_ | exact rfl
        refine zs_237_49 ?_
        repeat' first | refine And.intro rfl ?_ | refine And.intro (Or.inl rfl) ?_ | refine And.intro (Or.inr rfl) ?_ | refine And.intro (Nat.le_of_ble_eq_true rfl) ?_ | refine And.intro (And.intro rfl rfl) ?_ | exact rfl
      · try simp only [if_neg h3]
        repeat' first | refine And.intro rfl ?_ | refine And.intro (Or.inl rfl) ?_ | refine And.intro (Or.inr rfl) ?_ | refine And.intro (Nat.le_of_ble_eq_true rfl) ?_ | refine And.intro (And.intro rfl rfl) ?_ | exact rfl
        refine Exists.intro _ (Exists.intro _ (And.intro (zr_X12_field F (zz_u I 52 7 0) J (d+1) x y (k2 h1 h2 h3)) ?_))
        repeat' first | refine And.intro rfl ?_ | refine And.intro (Or.inl rfl) ?_ | refine And.intro (Or.inr rfl) ?_ | refine And.intro (Nat.le_of_ble_eq_true rfl) ?_ | refine And.intro (And.intro rfl rfl) ?_ | exact rfl
        refine zs_237_49 ?_
        repeat' first | refine And.intro rfl ?_ | refine And.intro (Or.inl rfl) ?_ | refine And.intro (Or.inr rfl) ?_ | refine And.intro (Nat.le_of_ble_eq_true rfl) ?_ | refine And.intro (And.intro rfl rfl) ?_ | exact rfl
    · try simp only [if_neg h2]
      repeat' first | refine And.intro rfl ?_ | refine And.intro (Or.inl rfl) ?_ | refine And.intro (Or.inr rfl) ?_ | refine And.intro (Nat.le_of_ble_eq_true rfl) ?_ | refine And.intro (And.intro rfl rfl) ?_ | exact rfl
      refine zs_237_23 ?_
      repeat' first | refine And.intro rfl ?_ | refine And.intro (Or.inl rfl) ?_ | refine And.intro (Or.inr rfl) ?_ | refine And.intro (Nat.le_of_ble_eq_true rfl) ?_ | refine And.intro (And.intro rfl rfl) ?_ | exact rfl
      refine Exists.intro _ (Exists.intro _ (And.intro (zr_X12_lost F (zz_u I 52 7 0) J (d+1) ) ?_))
      repeat' first | refine And.intro rfl ?_ | refine And.intro (Or.inl rfl) ?_ | refine And.intro (Or.inr rfl) ?_ | refine And.intro (Nat.le_of_ble_eq_true rfl) ?_ | refine And.intro (And.intro rfl rfl) ?_ | exact rfl
def zv_X12_knownBy (I : Nat → Nat → Int32) (x : Int32) (y : Int32) : Int32 := if ¬ (zv_X12_field I y 4) = ((-1)) then (x ||| (1 <<< ((zv_X12_field I y 4) &&& 31))) else x
theorem zr_X12_knownBy (F : zz_F) (I : Nat → Nat → Int32) (J : Nat → Nat → Int64) (d : Nat) (x : Int32) (y : Int32) (k1 : (vp_in ((7 * y) + 4) 84)) : zz_run (d+1) 243 0 [some (.ref 52), some (.int (x)), some (.int (y))] [] (zz_S F I J) (some (.int (zv_X12_knownBy I x y))) (zz_S F (I) (J)) := by
  unfold zv_X12_knownBy
  refine zs_243_0 ?_
  repeat' first | refine And.intro rfl ?_ | refine And.intro (Or.inl rfl) ?_ | refine And.intro (Or.inr rfl) ?_ | refine And.intro (Nat.le_of_ble_eq_true rfl) ?_ | refine And.intro (And.intro rfl rfl) ?_ | exact rfl
  refine Exists.intro _ (Exists.intro _ (And.intro (zr_X12_field F I J d y 4 k1) ?_))
  repeat' first | refine And.intro rfl ?_ | refine And.intro (Or.inl rfl) ?_ | refine And.intro (Or.inr rfl) ?_ | refine And.intro (Nat.le_of_ble_eq_true rfl) ?_ | refine And.intro (And.intro rfl rfl) ?_ | exact rfl
  refine And.intro (fun (h1 : ¬ (zv_X12_field I y 4) = ((-1))) => ?_) (fun (h1 : ¬ (¬ (zv_X12_field I y 4) = ((-1)))) => ?_)
  · try simp only [if_pos h1]
    refine zs_243_14 ?_
    repeat' first | refine And.intro rfl ?_ | refine And.intro (Or.inl rfl) ?_ | refine And.intro (Or.inr rfl) ?_ | refine And.intro (Nat.le_of_ble_eq_true rfl) ?_ | refine And.intro (And.intro rfl rfl) ?_ | exact rfl
    refine Exists.intro _ (Exists.intro _ (And.intro (zr_X12_field F I J d y 4 k1) ?_))
    repeat' first | refine And.intro rfl ?_ | refine And.intro (Or.inl rfl) ?_ | refine And.intro (Or.inr rfl) ?_ | refine And.intro (Nat.le_of_ble_eq_true rfl) ?_ | refine And.intro (And.intro rfl rfl) ?_ | exact rfl
    refine zs_243_24 ?_
    repeat' first | refine And.intro rfl ?_ | refine And.intro (Or.inl rfl) ?_ | refine And.intro (Or.inr rfl) ?_ | refine And.intro (Nat.le_of_ble_eq_true rfl) ?_ | refine And.intro (And.intro rfl rfl) ?_ | exact rfl
  · try simp only [if_neg h1]
    repeat' first | refine And.intro rfl ?_ | refine And.intro (Or.inl rfl) ?_ | refine And.intro (Or.inr rfl) ?_ | refine And.intro (Nat.le_of_ble_eq_true rfl) ?_ | refine And.intro (And.intro rfl rfl) ?_ | exact rfl
    refine zs_243_24 ?_
    repeat' first | refine And.intro rfl ?_ | refine And.intro (Or.inl rfl) ?_ | refine And.intro (Or.inr rfl) ?_ | refine And.intro (Nat.le_of_ble_eq_true rfl) ?_ | refine And.intro (And.intro rfl rfl) ?_ | exact rfl
def zv_X12_doesClash (I : Nat → Nat → Int32) (x : Int32) (y : Int32) : Int32 := if (zv_X12_field I y 5) = ((-1)) then 0 else (if ¬ (zv_X12_has x (zv_X12_field I y 5)) = 0 then 0 else 1)
theorem zr_X12_doesClash (F : zz_F) (I : Nat → Nat → Int32) (J : Nat → Nat → Int64) (d : Nat) (x : Int32) (y : Int32) (k1 : (vp_in ((7 * y) + 5) 84)) : zz_run (d+1) 244 0 [some (.ref 52), some (.int (x)), some (.int (y))] [] (zz_S F I J) (some (.int (zv_X12_doesClash I x y))) (zz_S F (I) (J)) := by
  unfold zv_X12_doesClash
  refine zs_244_0 ?_
  repeat' first | refine And.intro rfl ?_ | refine And.intro (Or.inl rfl) ?_ | refine And.intro (Or.inr rfl) ?_ | refine And.intro (Nat.le_of_ble_eq_true rfl) ?_ | refine And.intro (And.intro rfl rfl) ?_ | exact rfl
  refine Exists.intro _ (Exists.intro _ (And.intro (zr_X12_field F I J d y 5 k1) ?_))
  repeat' first | refine And.intro rfl ?_ | refine And.intro (Or.inl rfl) ?_ | refine And.intro (Or.inr rfl) ?_ | refine And.intro (Nat.le_of_ble_eq_true rfl) ?_ | refine And.intro (And.intro rfl rfl) ?_ | exact rfl
  refine And.intro (fun (h1 : (zv_X12_field I y 5) = ((-1))) => ?_) (fun (h1 : ¬ ((zv_X12_field I y 5) = ((-1)))) => ?_)
  · try simp only [if_pos h1]
    refine zs_244_27 ?_
    repeat' first | refine And.intro rfl ?_ | refine And.intro (Or.inl rfl) ?_ | refine And.intro (Or.inr rfl) ?_ | refine And.intro (Nat.le_of_ble_eq_true rfl) ?_ | refine And.intro (And.intro rfl rfl) ?_ | exact rfl
    refine zs_244_28 ?_
    repeat' first | refine And.intro rfl ?_ | refine And.intro (Or.inl rfl) ?_ | refine And.intro (Or.inr rfl) ?_ | refine And.intro (Nat.le_of_ble_eq_true rfl) ?_ | refine And.intro (And.intro rfl rfl) ?_ | exact rfl
  · try simp only [if_neg h1]
    repeat' first | refine And.intro rfl ?_ | refine And.intro (Or.inl rfl) ?_ | refine And.intro (Or.inr rfl) ?_ | refine And.intro (Nat.le_of_ble_eq_true rfl) ?_ | refine And.intro (And.intro rfl rfl) ?_ | exact rfl
    refine Exists.intro _ (Exists.intro _ (And.intro (zr_X12_field F I J d y 5 k1) ?_))
    repeat' first | refine And.intro rfl ?_ | refine And.intro (Or.inl rfl) ?_ | refine And.intro (Or.inr rfl) ?_ | refine And.intro (Nat.le_of_ble_eq_true rfl) ?_ | refine And.intro (And.intro rfl rfl) ?_ | exact rfl
    refine Exists.intro _ (Exists.intro _ (And.intro (zr_X12_has F I J d x (zv_X12_field I y 5)) ?_))
    repeat' first | refine And.intro rfl ?_ | refine And.intro (Or.inl rfl) ?_ | refine And.intro (Or.inr rfl) ?_ | refine And.intro (Nat.le_of_ble_eq_true rfl) ?_ | refine And.intro (And.intro rfl rfl) ?_ | exact rfl
    refine And.intro (fun (h2 : ¬ (zv_X12_has x (zv_X12_field I y 5)) = 0) => ?_) (fun (h2 : ¬ (¬ (zv_X12_has x (zv_X12_field I y 5)) = 0)) => ?_)
    · try simp only [if_pos h2]
      refine zs_244_27 ?_
      repeat' first | refine And.intro rfl ?_ | refine And.intro (Or.inl rfl) ?_ | refine And.intro (Or.inr rfl) ?_ | refine And.intro (Nat.le_of_ble_eq_true rfl) ?_ | refine And.intro (And.intro rfl rfl) ?_ | exact rfl
      refine zs_244_28 ?_
      repeat' first | refine And.intro rfl ?_ | refine And.intro (Or.inl rfl) ?_ | refine And.intro (Or.inr rfl) ?_ | refine And.intro (Nat.le_of_ble_eq_true rfl) ?_ | refine And.intro (And.intro rfl rfl) ?_ | exact rfl
    · try simp only [if_neg h2]
      repeat' first | refine And.intro rfl ?_ | refine And.intro (Or.inl rfl) ?_ | refine And.intro (Or.inr rfl) ?_ | refine And.intro (Nat.le_of_ble_eq_true rfl) ?_ | refine And.intro (And.intro rfl rfl) ?_ | exact rfl
      refine zs_244_28 ?_
      repeat' first | refine And.intro rfl ?_ | refine And.intro (Or.inl rfl) ?_ | refine And.intro (Or.inr rfl) ?_ | refine And.intro (Nat.le_of_ble_eq_true rfl) ?_ | refine And.intro (And.intro rfl rfl) ?_ | exact rfl
theorem zb_X12_doesClash (I : Nat → Nat → Int32) (x : Int32) (y : Int32) : zv_X12_doesClash I x y = 0 ∨ zv_X12_doesClash I x y = 1 := by
  unfold zv_X12_doesClash
  repeat' first | split | exact Or.inl rfl | exact Or.inr rfl
def zv_X12_brings (I : Nat → Nat → Int32) (x : Int32) (y : Int32) : Int32 := if (zv_X12_doesClash I x y) = 0 then (zv_X12_field I y 6) else ((zv_X12_field I y 6) / 2)
theorem zr_X12_brings (F : zz_F) (I : Nat → Nat → Int32) (J : Nat → Nat → Int64) (d : Nat) (x : Int32) (y : Int32) (k1 : (vp_in ((7 * y) + 5) 84)) (k2 : ((zv_X12_doesClash I x y) = 0) → (vp_in ((7 * y) + 6) 84)) (k3 : (¬ ((zv_X12_doesClash I x y) = 0)) → (vp_in ((7 * y) + 6) 84)) : zz_run (d+2) 245 0 [some (.ref 52), some (.int (x)), some (.int (y))] [] (zz_S F I J) (some (.int (zv_X12_brings I x y))) (zz_S F (I) (J)) := by
  unfold zv_X12_brings
  refine zs_245_0 ?_
  repeat' first | refine And.intro rfl ?_ | refine And.intro (Or.inl rfl) ?_ | refine And.intro (Or.inr rfl) ?_ | refine And.intro (Nat.le_of_ble_eq_true rfl) ?_ | refine And.intro (And.intro rfl rfl) ?_ | exact rfl
  refine Exists.intro _ (Exists.intro _ (And.intro (zr_X12_doesClash F I J d x y k1) ?_))
  repeat' first | refine And.intro rfl ?_ | refine And.intro (Or.inl rfl) ?_ | refine And.intro (Or.inr rfl) ?_ | refine And.intro (Nat.le_of_ble_eq_true rfl) ?_ | refine And.intro (And.intro rfl rfl) ?_ | exact rfl
  refine And.intro (fun (h1 : (zv_X12_doesClash I x y) = 0) => ?_) (fun (h1 : ¬ ((zv_X12_doesClash I x y) = 0)) => ?_)
  · try simp only [if_pos h1]
    refine zs_245_21 ?_
    repeat' first | refine And.intro rfl ?_ | refine And.intro (Or.inl rfl) ?_ | refine And.intro (Or.inr rfl) ?_ | refine And.intro (Nat.le_of_ble_eq_true rfl) ?_ | refine And.intro (And.intro rfl rfl) ?_ | exact rfl
    refine Exists.intro _ (Exists.intro _ (And.intro (zr_X12_field F I J (d+1) y 6 (k2 h1)) ?_))
    repeat' first | refine And.intro rfl ?_ | refine And.intro (Or.inl rfl) ?_ | refine And.intro (Or.inr rfl) ?_ | refine And.intro (Nat.le_of_ble_eq_true rfl) ?_ | refine And.intro (And.intro rfl rfl) ?_ | exact rfl
    refine zs_245_28 ?_
    repeat' first | refine And.intro rfl ?_ | refine And.intro (Or.inl rfl) ?_ | refine And.intro (Or.inr rfl) ?_ | refine And.intro (Nat.le_of_ble_eq_true rfl) ?_ | refine And.intro (And.intro rfl rfl) ?_ | exact rfl
  · try simp only [if_neg h1]
    repeat' first | refine And.intro rfl ?_ | refine And.intro (Or.inl rfl) ?_ | refine And.intro (Or.inr rfl) ?_ | refine And.intro (Nat.le_of_ble_eq_true rfl) ?_ | refine And.intro (And.intro rfl rfl) ?_ | exact rfl
    refine Exists.intro _ (Exists.intro _ (And.intro (zr_X12_field F I J (d+1) y 6 (k3 h1)) ?_))
    repeat' first | refine And.intro rfl ?_ | refine And.intro (Or.inl rfl) ?_ | refine And.intro (Or.inr rfl) ?_ | refine And.intro (Nat.le_of_ble_eq_true rfl) ?_ | refine And.intro (And.intro rfl rfl) ?_ | exact rfl
    refine And.intro ((by decide : ¬ (2 : Int32) = 0)) ?_
    repeat' first | refine And.intro rfl ?_ | refine And.intro (Or.inl rfl) ?_ | refine And.intro (Or.inr rfl) ?_ | refine And.intro (Nat.le_of_ble_eq_true rfl) ?_ | refine And.intro (And.intro rfl rfl) ?_ | exact rfl
    refine zs_245_28 ?_
    repeat' first | refine And.intro rfl ?_ | refine And.intro (Or.inl rfl) ?_ | refine And.intro (Or.inr rfl) ?_ | refine And.intro (Nat.le_of_ble_eq_true rfl) ?_ | refine And.intro (And.intro rfl rfl) ?_ | exact rfl
def zv_X12_spot (x : Int32) (y : Int32) (z : Int32) : Int32 := (((13 * x) + y) * 3) + z
theorem zr_X12_spot (F : zz_F) (I : Nat → Nat → Int32) (J : Nat → Nat → Int64) (d : Nat) (x : Int32) (y : Int32) (z : Int32) : zz_run (d) 267 0 [some (.ref 52), some (.int (x)), some (.int (y)), some (.int (z))] [] (zz_S F I J) (some (.int (zv_X12_spot x y z))) (zz_S F (I) (J)) := by
  unfold zv_X12_spot
  refine zs_267_0 ?_
  repeat' first | refine And.intro rfl ?_ | refine And.intro (Or.inl rfl) ?_ | refine And.intro (Or.inr rfl) ?_ | refine And.intro (Nat.le_of_ble_eq_true rfl) ?_ | refine And.intro (And.intro rfl rfl) ?_ | exact rfl
def zv_X12_gets (x : Int32) (y : Int32) (z : Int32) : Int32 := if z < (x + y) then (zz_max 0 ((z / 2) - (zz_max 0 (x - (z / 2))))) else x
theorem zr_X12_gets (F : zz_F) (I : Nat → Nat → Int32) (J : Nat → Nat → Int64) (d : Nat) (x : Int32) (y : Int32) (z : Int32) : zz_run (d+1) 290 0 [some (.int (x)), some (.int (y)), some (.int (z))] [] (zz_S F I J) (some (.int (zv_X12_gets x y z))) (zz_S F (I) (J)) := by
  unfold zv_X12_gets
  refine zs_290_0 ?_
  repeat' first | refine And.intro rfl ?_ | refine And.intro (Or.inl rfl) ?_ | refine And.intro (Or.inr rfl) ?_ | refine And.intro (Nat.le_of_ble_eq_true rfl) ?_ | refine And.intro (And.intro rfl rfl) ?_ | exact rfl
  refine And.intro (fun (h1 : z < (x + y)) => ?_) (fun (h1 : ¬ (z < (x + y))) => ?_)
  · try simp only [if_pos h1]
    refine zs_290_11 ?_
    repeat' first | refine And.intro rfl ?_ | refine And.intro (Or.inl rfl) ?_ | refine And.intro (Or.inr rfl) ?_ | refine And.intro (Nat.le_of_ble_eq_true rfl) ?_ | refine And.intro (And.intro rfl rfl) ?_ | exact rfl
    refine And.intro ((by decide : ¬ (2 : Int32) = 0)) ?_
    repeat' first | refine And.intro rfl ?_ | refine And.intro (Or.inl rfl) ?_ | refine And.intro (Or.inr rfl) ?_ | refine And.intro (Nat.le_of_ble_eq_true rfl) ?_ | refine And.intro (And.intro rfl rfl) ?_ | exact rfl
    refine And.intro ((by decide : ¬ (2 : Int32) = 0)) ?_
    repeat' first | refine And.intro rfl ?_ | refine And.intro (Or.inl rfl) ?_ | refine And.intro (Or.inr rfl) ?_ | refine And.intro (Nat.le_of_ble_eq_true rfl) ?_ | refine And.intro (And.intro rfl rfl) ?_ | exact rfl
    refine Exists.intro _ (Exists.intro _ (And.intro (zr_max F I J d 0 (x - (z / 2))) ?_))
    repeat' first | refine And.intro rfl ?_ | refine And.intro (Or.inl rfl) ?_ | refine And.intro (Or.inr rfl) ?_ | refine And.intro (Nat.le_of_ble_eq_true rfl) ?_ | refine And.intro (And.intro rfl rfl) ?_ | exact rfl
    refine Exists.intro _ (Exists.intro _ (And.intro (zr_max F I J d 0 ((z / 2) - (zz_max 0 (x - (z / 2))))) ?_))
    repeat' first | refine And.intro rfl ?_ | refine And.intro (Or.inl rfl) ?_ | refine And.intro (Or.inr rfl) ?_ | refine And.intro (Nat.le_of_ble_eq_true rfl) ?_ | refine And.intro (And.intro rfl rfl) ?_ | exact rfl
    refine zs_290_28 ?_
    repeat' first | refine And.intro rfl ?_ | refine And.intro (Or.inl rfl) ?_ | refine And.intro (Or.inr rfl) ?_ | refine And.intro (Nat.le_of_ble_eq_true rfl) ?_ | refine And.intro (And.intro rfl rfl) ?_ | exact rfl
  · try simp only [if_neg h1]
    repeat' first | refine And.intro rfl ?_ | refine And.intro (Or.inl rfl) ?_ | refine And.intro (Or.inr rfl) ?_ | refine And.intro (Nat.le_of_ble_eq_true rfl) ?_ | refine And.intro (And.intro rfl rfl) ?_ | exact rfl
    refine zs_290_28 ?_
    repeat' first | refine And.intro rfl ?_ | refine And.intro (Or.inl rfl) ?_ | refine And.intro (Or.inr rfl) ?_ | refine And.intro (Nat.le_of_ble_eq_true rfl) ?_ | refine And.intro (And.intro rfl rfl) ?_ | exact rfl
def zv_X12_leadBy (I : Nat → Nat → Int32) (x : Int32) (y : Int32) : Int32 := if ¬ y = x then (y - (I 79 ((x - y).toNatClampNeg))) else (y - 4)
theorem zr_X12_leadBy (F : zz_F) (I : Nat → Nat → Int32) (J : Nat → Nat → Int64) (d : Nat) (x : Int32) (y : Int32) (k1 : (¬ y = x) → (vp_in (x - y) 41)) : zz_run (d) 293 0 [some (.ref 52), some (.int (x)), some (.int (y))] [] (zz_S F I J) (some (.int (zv_X12_leadBy I x y))) (zz_S F (I) (J)) := by
  unfold zv_X12_leadBy
  refine zs_293_0 ?_
  repeat' first | refine And.intro rfl ?_ | refine And.intro (Or.inl rfl) ?_ | refine And.intro (Or.inr rfl) ?_ | refine And.intro (Nat.le_of_ble_eq_true rfl) ?_ | refine And.intro (And.intro rfl rfl) ?_ | exact rfl
  refine And.intro (fun (h1 : ¬ y = x) => ?_) (fun (h1 : ¬ (¬ y = x)) => ?_)
  · try simp only [if_pos h1]
    refine zs_293_11 ?_
    repeat' first | refine And.intro rfl ?_ | refine And.intro (Or.inl rfl) ?_ | refine And.intro (Or.inr rfl) ?_ | refine And.intro (Nat.le_of_ble_eq_true rfl) ?_ | refine And.intro (And.intro rfl rfl) ?_ | exact rfl
    refine And.intro ((k1 h1)) ?_
    repeat' first | refine And.intro rfl ?_ | refine And.intro (Or.inl rfl) ?_ | refine And.intro (Or.inr rfl) ?_ | refine And.intro (Nat.le_of_ble_eq_true rfl) ?_ | refine And.intro (And.intro rfl rfl) ?_ | exact rfl
    refine zs_293_21 ?_
    repeat' first | refine And.intro rfl ?_ | refine And.intro (Or.inl rfl) ?_ | refine And.intro (Or.inr rfl) ?_ | refine And.intro (Nat.le_of_ble_eq_true rfl) ?_ | refine And.intro (And.intro rfl rfl) ?_ | exact rfl
  · try simp only [if_neg h1]
    repeat' first | refine And.intro rfl ?_ | refine And.intro (Or.inl rfl) ?_ | refine And.intro (Or.inr rfl) ?_ | refine And.intro (Nat.le_of_ble_eq_true rfl) ?_ | refine And.intro (And.intro rfl rfl) ?_ | exact rfl
    refine zs_293_21 ?_
    repeat' first | refine And.intro rfl ?_ | refine And.intro (Or.inl rfl) ?_ | refine And.intro (Or.inr rfl) ?_ | refine And.intro (Nat.le_of_ble_eq_true rfl) ?_ | refine And.intro (And.intro rfl rfl) ?_ | exact rfl
def zv_X12_row (I : Nat → Nat → Int32) (J : Nat → Nat → Int64) (x : Int32) : Int64 := if (zv_X12_in x 0 ((I 52 6) - 1)) = 0 then ((zv_X12_lost (zz_u I 52 7 0)).toInt64) else (J 56 x.toNatClampNeg)
def zw_X12_row (I : Nat → Nat → Int32) (J : Nat → Nat → Int64) (x : Int32) : Nat → Nat → Int32 := if (zv_X12_in x 0 ((I 52 6) - 1)) = 0 then (zw_X12_lost (zz_u I 52 7 0)) else (zz_u I 52 7 0)
theorem zr_X12_row (F : zz_F) (I : Nat → Nat → Int32) (J : Nat → Nat → Int64) (d : Nat) (x : Int32) (k1 : (¬ ((zv_X12_in x 0 ((I 52 6) - 1)) = 0)) → (vp_in x 20)) : zz_run (d+1) 305 0 [some (.ref 52), some (.int (x))] [] (zz_S F I J) (some (.long (zv_X12_row I J x))) (zz_S F (zw_X12_row I J x) (J)) := by
  unfold zv_X12_row zw_X12_row
  refine zs_305_0 ?_
  repeat' first | refine And.intro rfl ?_ | refine And.intro (Or.inl rfl) ?_ | refine And.intro (Or.inr rfl) ?_ | refine And.intro (Nat.le_of_ble_eq_true rfl) ?_ | refine And.intro (And.intro rfl rfl) ?_ | exact rfl
  refine Exists.intro _ (Exists.intro _ (And.intro (zr_X12_in F (zz_u I 52 7 0) J d x 0 ((I 52 6) - 1)) ?_))
  repeat' first | refine And.intro rfl ?_ | refine And.intro (Or.inl rfl) ?_ | refine And.intro (Or.inr rfl) ?_ | refine And.intro (Nat.le_of_ble_eq_true rfl) ?_ | refine And.intro (And.intro rfl rfl) ?_ | exact rfl
  refine And.intro (fun (h1 : (zv_X12_in x 0 ((I 52 6) - 1)) = 0) => ?_) (fun (h1 : ¬ ((zv_X12_in x 0 ((I 52 6) - 1)) = 0)) => ?_)
  · try simp only [if_pos h1]
    refine zs_305_28 ?_
    repeat' first | refine And.intro rfl ?_ | refine And.intro (Or.inl rfl) ?_ | refine And.intro (Or.inr rfl) ?_ | refine And.intro (Nat.le_of_ble_eq_true rfl) ?_ | refine And.intro (And.intro rfl rfl) ?_ | exact rfl
    refine Exists.intro _ (Exists.intro _ (And.intro (zr_X12_lost F (zz_u I 52 7 0) J d ) ?_))
    repeat' first | refine And.intro rfl ?_ | refine And.intro (Or.inl rfl) ?_ | refine And.intro (Or.inr rfl) ?_ | refine And.intro (Nat.le_of_ble_eq_true rfl) ?_ | refine And.intro (And.intro rfl rfl) ?_ | exact rfl
    refine zs_305_33 ?_
    repeat' first | refine And.intro rfl ?_ | refine And.intro (Or.inl rfl) ?_ | refine And.intro (Or.inr rfl) ?_ | refine And.intro (Nat.le_of_ble_eq_true rfl) ?_ | refine And.intro (And.intro rfl rfl) ?_ | exact rfl
  · try simp only [if_neg h1]
    repeat' first | refine And.intro rfl ?_ | refine And.intro (Or.inl rfl) ?_ | refine And.intro (Or.inr rfl) ?_ | refine And.intro (Nat.le_of_ble_eq_true rfl) ?_ | refine And.intro (And.intro rfl rfl) ?_ | exact rfl
    refine And.intro ((k1 h1)) ?_
    repeat' first | refine And.intro rfl ?_ | refine And.intro (Or.inl rfl) ?_ | refine And.intro (Or.inr rfl) ?_ | refine And.intro (Nat.le_of_ble_eq_true rfl) ?_ | refine And.intro (And.intro rfl rfl) ?_ | exact rfl
    refine zs_305_33 ?_
    repeat' first | refine And.intro rfl ?_ | refine And.intro (Or.inl rfl) ?_ | refine And.intro (Or.inr rfl) ?_ | refine And.intro (Nat.le_of_ble_eq_true rfl) ?_ | refine And.intro (And.intro rfl rfl) ?_ | exact rfl
def zv_J6_bitCount (x : Int32) : Int32 := (((((((x - (((x.toUInt32 >>> ((1 : Int32).toUInt32 &&& Int32.toUInt32 31)).toInt32) &&& 1431655765)) &&& 858993459) + ((((x - (((x.toUInt32 >>> ((1 : Int32).toUInt32 &&& Int32.toUInt32 31)).toInt32) &&& 1431655765)).toUInt32 >>> ((2 : Int32).toUInt32 &&& Int32.toUInt32 31)).toInt32) &&& 858993459)) + (((((x - (((x.toUInt32 >>> ((1 : Int32).toUInt32 &&& Int32.toUInt32 31)).toInt32) &&& 1431655765)) &&& 858993459) + ((((x - (((x.toUInt32 >>> ((1 : Int32).toUInt32 &&& Int32.toUInt32 31)).toInt32) &&& 1431655765)).toUInt32 >>> ((2 : Int32).toUInt32 &&& Int32.toUInt32 31)).toInt32) &&& 858993459)).toUInt32 >>> ((4 : Int32).toUInt32 &&& Int32.toUInt32 31)).toInt32)) &&& 252645135) + (((((((x - (((x.toUInt32 >>> ((1 : Int32).toUInt32 &&& Int32.toUInt32 31)).toInt32) &&& 1431655765)) &&& 858993459) + ((((x - (((x.toUInt32 >>> ((1 : Int32).toUInt32 &&& Int32.toUInt32 31)).toInt32) &&& 1431655765)).toUInt32 >>> ((2 : Int32).toUInt32 &&& Int32.toUInt32 31)).toInt32) &&& 858993459)) + (((((x - (((x.toUInt32 >>> ((1 : Int32).toUInt32 &&& Int32.toUInt32 31)).toInt32) &&& 1431655765)) &&& 858993459) + ((((x - (((x.toUInt32 >>> ((1 : Int32).toUInt32 &&& Int32.toUInt32 31)).toInt32) &&& 1431655765)).toUInt32 >>> ((2 : Int32).toUInt32 &&& Int32.toUInt32 31)).toInt32) &&& 858993459)).toUInt32 >>> ((4 : Int32).toUInt32 &&& Int32.toUInt32 31)).toInt32)) &&& 252645135).toUInt32 >>> ((8 : Int32).toUInt32 &&& Int32.toUInt32 31)).toInt32)) + ((((((((x - (((x.toUInt32 >>> ((1 : Int32).toUInt32 &&& Int32.toUInt32 31)).toInt32) &&& 1431655765)) &&& 858993459) + ((((x - (((x.toUInt32 >>> ((1 : Int32).toUInt32 &&& Int32.toUInt32 31)).toInt32) &&& 1431655765)).toUInt32 >>> ((2 : Int32).toUInt32 &&& Int32.toUInt32 31)).toInt32) &&& 858993459)) + (((((x - (((x.toUInt32 >>> ((1 : Int32).toUInt32 &&& Int32.toUInt32 31)).toInt32) &&& 1431655765)) &&& 858993459) + ((((x - (((x.toUInt32 >>> ((1 : Int32).toUInt32 &&& Int32.toUInt32 31)).toInt32) &&& 1431655765)).toUInt32 >>> ((2 : Int32).toUInt32 &&& Int32.toUInt32 31)).toInt32) &&& 858993459)).toUInt32 >>> ((4 : Int32).toUInt32 &&& Int32.toUInt32 31)).toInt32)) &&& 252645135) + (((((((x - (((x.toUInt32 >>> ((1 : Int32).toUInt32 &&& Int32.toUInt32 31)).toInt32) &&& 1431655765)) &&& 858993459) + ((((x - (((x.toUInt32 >>> ((1 : Int32).toUInt32 &&& Int32.toUInt32 31)).toInt32) &&& 1431655765)).toUInt32 >>> ((2 : Int32).toUInt32 &&& Int32.toUInt32 31)).toInt32) &&& 858993459)) + (((((x - (((x.toUInt32 >>> ((1 : Int32).toUInt32 &&& Int32.toUInt32 31)).toInt32) &&& 1431655765)) &&& 858993459) + ((((x - (((x.toUInt32 >>> ((1 : Int32).toUInt32 &&& Int32.toUInt32 31)).toInt32) &&& 1431655765)).toUInt32 >>> ((2 : Int32).toUInt32 &&& Int32.toUInt32 31)).toInt32) &&& 858993459)).toUInt32 >>> ((4 : Int32).toUInt32 &&& Int32.toUInt32 31)).toInt32)) &&& 252645135).toUInt32 >>> ((8 : Int32).toUInt32 &&& Int32.toUInt32 31)).toInt32)).toUInt32 >>> ((16 : Int32).toUInt32 &&& Int32.toUInt32 31)).toInt32)) &&& 63
theorem zr_J6_bitCount (F : zz_F) (I : Nat → Nat → Int32) (J : Nat → Nat → Int64) (d : Nat) (x : Int32) : zz_run (d) 308 0 [some (.int (x))] [] (zz_S F I J) (some (.int (zv_J6_bitCount x))) (zz_S F (I) (J)) := by
  unfold zv_J6_bitCount
  refine zs_308_0 ?_
  repeat' first | refine And.intro rfl ?_ | refine And.intro (Or.inl rfl) ?_ | refine And.intro (Or.inr rfl) ?_ | refine And.intro (Nat.le_of_ble_eq_true rfl) ?_ | refine And.intro (And.intro rfl rfl) ?_ | exact rfl
def zv_X3_takesPerson (I : Nat → Nat → Int32) (x : Int32) : Int32 := if x < 65 then 0 else (if 70 < x then 0 else (if (zv_X3_rises I 2 (x - 65)) = 0 then 0 else 1))
def zw_X3_takesPerson (I : Nat → Nat → Int32) (x : Int32) : Nat → Nat → Int32 := if x < 65 then I else (if 70 < x then I else (zw_X3_rises I 2 (x - 65)))
theorem zr_X3_takesPerson (F : zz_F) (I : Nat → Nat → Int32) (J : Nat → Nat → Int64) (d : Nat) (x : Int32) : zz_run (d+2) 39 0 [some (.ref 36), some (.int (x))] [] (zz_S F I J) (some (.int (zv_X3_takesPerson I x))) (zz_S F (zw_X3_takesPerson I x) (J)) := by
  unfold zv_X3_takesPerson zw_X3_takesPerson
  refine zs_39_0 ?_
  repeat' first | refine And.intro rfl ?_ | refine And.intro (Or.inl rfl) ?_ | refine And.intro (Or.inr rfl) ?_ | refine And.intro (Nat.le_of_ble_eq_true rfl) ?_ | refine And.intro (And.intro rfl rfl) ?_ | exact rfl
  refine And.intro (fun (h1 : x < 65) => ?_) (fun (h1 : ¬ (x < 65)) => ?_)
  · try simp only [if_pos h1]
    refine zs_39_28 ?_
    repeat' first | refine And.intro rfl ?_ | refine And.intro (Or.inl rfl) ?_ | refine And.intro (Or.inr rfl) ?_ | refine And.intro (Nat.le_of_ble_eq_true rfl) ?_ | refine And.intro (And.intro rfl rfl) ?_ | exact rfl
    refine zs_39_29 ?_
    repeat' first | refine And.intro rfl ?_ | refine And.intro (Or.inl rfl) ?_ | refine And.intro (Or.inr rfl) ?_ | refine And.intro (Nat.le_of_ble_eq_true rfl) ?_ | refine And.intro (And.intro rfl rfl) ?_ | exact rfl
  · try simp only [if_neg h1]
    repeat' first | refine And.intro rfl ?_ | refine And.intro (Or.inl rfl) ?_ | refine And.intro (Or.inr rfl) ?_ | refine And.intro (Nat.le_of_ble_eq_true rfl) ?_ | refine And.intro (And.intro rfl rfl) ?_ | exact rfl
    refine And.intro (fun (h2 : 70 < x) => ?_) (fun (h2 : ¬ (70 < x)) => ?_)
    · try simp only [if_pos h2]
      refine zs_39_28 ?_
      repeat' first | refine And.intro rfl ?_ | refine And.intro (Or.inl rfl) ?_ | refine And.intro (Or.inr rfl) ?_ | refine And.intro (Nat.le_of_ble_eq_true rfl) ?_ | refine And.intro (And.intro rfl rfl) ?_ | exact rfl
      refine zs_39_29 ?_
      repeat' first | refine And.intro rfl ?_ | refine And.intro (Or.inl rfl) ?_ | refine And.intro (Or.inr rfl) ?_ | refine And.intro (Nat.le_of_ble_eq_true rfl) ?_ | refine And.intro (And.intro rfl rfl) ?_ | exact rfl
    · try simp only [if_neg h2]
      repeat' first | refine And.intro rfl ?_ | refine And.intro (Or.inl rfl) ?_ | refine And.intro (Or.inr rfl) ?_ | refine And.intro (Nat.le_of_ble_eq_true rfl) ?_ | refine And.intro (And.intro rfl rfl) ?_ | exact rfl
      refine Exists.intro _ (Exists.intro _ (And.intro (zr_X3_rises F I J d 2 (x - 65)) ?_))
      repeat' first | refine And.intro rfl ?_ | refine And.intro (Or.inl rfl) ?_ | refine And.intro (Or.inr rfl) ?_ | refine And.intro (Nat.le_of_ble_eq_true rfl) ?_ | refine And.intro (And.intro rfl rfl) ?_ | exact rfl
      refine And.intro (fun (h3 : (zv_X3_rises I 2 (x - 65)) = 0) => ?_) (fun (h3 : ¬ ((zv_X3_rises I 2 (x - 65)) = 0)) => ?_)
      · try simp only [if_pos h3]
        refine zs_39_28 ?_
        repeat' first | refine And.intro rfl ?_ | refine And.intro (Or.inl rfl) ?_ | refine And.intro (Or.inr rfl) ?_ | refine And.intro (Nat.le_of_ble_eq_true rfl) ?_ | refine And.intro (And.intro rfl rfl) ?_ | exact rfl
        refine zs_39_29 ?_
        repeat' first | refine And.intro rfl ?_ | refine And.intro (Or.inl rfl) ?_ | refine And.intro (Or.inr rfl) ?_ | refine And.intro (Nat.le_of_ble_eq_true rfl) ?_ | refine And.intro (And.intro rfl rfl) ?_ | exact rfl
      · try simp only [if_neg h3]
        repeat' first | refine And.intro rfl ?_ | refine And.intro (Or.inl rfl) ?_ | refine And.intro (Or.inr rfl) ?_ | refine And.intro (Nat.le_of_ble_eq_true rfl) ?_ | refine And.intro (And.intro rfl rfl) ?_ | exact rfl
        refine zs_39_29 ?_
        repeat' first | refine And.intro rfl ?_ | refine And.intro (Or.inl rfl) ?_ | refine And.intro (Or.inr rfl) ?_ | refine And.intro (Nat.le_of_ble_eq_true rfl) ?_ | refine And.intro (And.intro rfl rfl) ?_ | exact rfl
theorem zb_X3_takesPerson (I : Nat → Nat → Int32) (x : Int32) : zv_X3_takesPerson I x = 0 ∨ zv_X3_takesPerson I x = 1 := by
  unfold zv_X3_takesPerson
  repeat' first | split | exact Or.inl rfl | exact Or.inr rfl
def zv_X3_takesProp (I : Nat → Nat → Int32) (x : Int32) : Int32 := if x < 49 then 0 else (if 52 < x then 0 else (if ¬ (zv_X3_rises I 3 (x - 49)) = 0 then 1 else 0))
def zw_X3_takesProp (I : Nat → Nat → Int32) (x : Int32) : Nat → Nat → Int32 := if x < 49 then I else (if 52 < x then I else (if ¬ (zv_X3_rises I 3 (x - 49)) = 0 then (zz_u (zw_X3_rises I 3 (x - 49)) 36 1 3) else (zw_X3_rises I 3 (x - 49))))
theorem zr_X3_takesProp (F : zz_F) (I : Nat → Nat → Int32) (J : Nat → Nat → Int64) (d : Nat) (x : Int32) : zz_run (d+2) 40 0 [some (.ref 36), some (.int (x))] [] (zz_S F I J) (some (.int (zv_X3_takesProp I x))) (zz_S F (zw_X3_takesProp I x) (J)) := by
  unfold zv_X3_takesProp zw_X3_takesProp
  refine zs_40_0 ?_
  repeat' first | refine And.intro rfl ?_ | refine And.intro (Or.inl rfl) ?_ | refine And.intro (Or.inr rfl) ?_ | refine And.intro (Nat.le_of_ble_eq_true rfl) ?_ | refine And.intro (And.intro rfl rfl) ?_ | exact rfl
  refine And.intro (fun (h1 : x < 49) => ?_) (fun (h1 : ¬ (x < 49)) => ?_)
  · try simp only [if_pos h1]
    refine zs_40_24 ?_
    repeat' first | refine And.intro rfl ?_ | refine And.intro (Or.inl rfl) ?_ | refine And.intro (Or.inr rfl) ?_ | refine And.intro (Nat.le_of_ble_eq_true rfl) ?_ | refine And.intro (And.intro rfl rfl) ?_ | exact rfl
  · try simp only [if_neg h1]
    repeat' first | refine And.intro rfl ?_ | refine And.intro (Or.inl rfl) ?_ | refine And.intro (Or.inr rfl) ?_ | refine And.intro (Nat.le_of_ble_eq_true rfl) ?_ | refine And.intro (And.intro rfl rfl) ?_ | exact rfl
    refine And.intro (fun (h2 : 52 < x) => ?_) (fun (h2 : ¬ (52 < x)) => ?_)
    · try simp only [if_pos h2]
      refine zs_40_24 ?_
      repeat' first | refine And.intro rfl ?_ | refine And.intro (Or.inl rfl) ?_ | refine And.intro (Or.inr rfl) ?_ | refine And.intro (Nat.le_of_ble_eq_true rfl) ?_ | refine And.intro (And.intro rfl rfl) ?_ | exact rfl
    · try simp only [if_neg h2]
      repeat' first | refine And.intro rfl ?_ | refine And.intro (Or.inl rfl) ?_ | refine And.intro (Or.inr rfl) ?_ | refine And.intro (Nat.le_of_ble_eq_true rfl) ?_ | refine And.intro (And.intro rfl rfl) ?_ | exact rfl
      refine Exists.intro _ (Exists.intro _ (And.intro (zr_X3_rises F I J d 3 (x - 49)) ?_))
      repeat' first | refine And.intro rfl ?_ | refine And.intro (Or.inl rfl) ?_ | refine And.intro (Or.inr rfl) ?_ | refine And.intro (Nat.le_of_ble_eq_true rfl) ?_ | refine And.intro (And.intro rfl rfl) ?_ | exact rfl
      refine And.intro (fun (h3 : ¬ (zv_X3_rises I 3 (x - 49)) = 0) => ?_) (fun (h3 : ¬ (¬ (zv_X3_rises I 3 (x - 49)) = 0)) => ?_)
      · try simp only [if_pos h3]
        refine zs_40_26 ?_
        repeat' first | refine And.intro rfl ?_ | refine And.intro (Or.inl rfl) ?_ | refine And.intro (Or.inr rfl) ?_ | refine And.intro (Nat.le_of_ble_eq_true rfl) ?_ | refine And.intro (And.intro rfl rfl) ?_ | exact rfl
      · try simp only [if_neg h3]
        repeat' first | refine And.intro rfl ?_ | refine And.intro (Or.inl rfl) ?_ | refine And.intro (Or.inr rfl) ?_ | refine And.intro (Nat.le_of_ble_eq_true rfl) ?_ | refine And.intro (And.intro rfl rfl) ?_ | exact rfl
        refine zs_40_24 ?_
        repeat' first | refine And.intro rfl ?_ | refine And.intro (Or.inl rfl) ?_ | refine And.intro (Or.inr rfl) ?_ | refine And.intro (Nat.le_of_ble_eq_true rfl) ?_ | refine And.intro (And.intro rfl rfl) ?_ | exact rfl
theorem zb_X3_takesProp (I : Nat → Nat → Int32) (x : Int32) : zv_X3_takesProp I x = 0 ∨ zv_X3_takesProp I x = 1 := by
  unfold zv_X3_takesProp
  repeat' first | split | exact Or.inl rfl | exact Or.inr rfl
def zv_X8_opens (I : Nat → Nat → Int32)  : Int32 := if (I 37 4) < 4 then 1 else 0
def zw_X8_opens (I : Nat → Nat → Int32)  : Nat → Nat → Int32 := if (I 37 4) < 4 then (zw_X8_hold (zz_u (zz_u I 37 4 ((I 37 4) + 1)) 37 5 ((I 37 5) &&& ((1 <<< (((I 37 4) + 1) &&& 31)) ^^^ ((-1))))) 40) else I
theorem zr_X8_opens (F : zz_F) (I : Nat → Nat → Int32) (J : Nat → Nat → Int64) (d : Nat)  : zz_run (d+1) 106 0 [some (.ref 37)] [] (zz_S F I J) (some (.int (zv_X8_opens I))) (zz_S F (zw_X8_opens I) (J)) := by
  unfold zv_X8_opens zw_X8_opens
  refine zs_106_0 ?_
  repeat' first | refine And.intro rfl ?_ | refine And.intro (Or.inl rfl) ?_ | refine And.intro (Or.inr rfl) ?_ | refine And.intro (Nat.le_of_ble_eq_true rfl) ?_ | refine And.intro (And.intro rfl rfl) ?_ | exact rfl
  refine And.intro (fun (h1 : (I 37 4) < 4) => ?_) (fun (h1 : ¬ ((I 37 4) < 4)) => ?_)
  · try simp only [if_pos h1]
    refine zs_106_10 ?_
    repeat' first | refine And.intro rfl ?_ | refine And.intro (Or.inl rfl) ?_ | refine And.intro (Or.inr rfl) ?_ | refine And.intro (Nat.le_of_ble_eq_true rfl) ?_ | refine And.intro (And.intro rfl rfl) ?_ | exact rfl
    refine Exists.intro _ (Exists.intro _ (And.intro (zr_X8_hold F (zz_u (zz_u I 37 4 ((I 37 4) + 1)) 37 5 ((I 37 5) &&& ((1 <<< (((I 37 4) + 1) &&& 31)) ^^^ ((-1))))) J d 40) ?_))
    repeat' first | refine And.intro rfl ?_ | refine And.intro (Or.inl rfl) ?_ | refine And.intro (Or.inr rfl) ?_ | refine And.intro (Nat.le_of_ble_eq_true rfl) ?_ | refine And.intro (And.intro rfl rfl) ?_ | exact rfl
  · try simp only [if_neg h1]
    repeat' first | refine And.intro rfl ?_ | refine And.intro (Or.inl rfl) ?_ | refine And.intro (Or.inr rfl) ?_ | refine And.intro (Nat.le_of_ble_eq_true rfl) ?_ | refine And.intro (And.intro rfl rfl) ?_ | exact rfl
theorem zb_X8_opens (I : Nat → Nat → Int32)  : zv_X8_opens I = 0 ∨ zv_X8_opens I = 1 := by
  unfold zv_X8_opens
  repeat' first | split | exact Or.inl rfl | exact Or.inr rfl
def zv_X11_bow (I : Nat → Nat → Int32) (x : Int32) (y : Int32) : Int32 := if (zv_X11_isPerson x) = 0 then ((-1)) else (if y < 0 then ((-1)) else (if y ≤ 1 then (zv_J6_bitCount ((I 2 15) ||| (1 <<< (x &&& 31)))) else ((-1))))
def zw_X11_bow (I : Nat → Nat → Int32) (x : Int32) (y : Int32) : Nat → Nat → Int32 := if (zv_X11_isPerson x) = 0 then I else (if y < 0 then I else (if y ≤ 1 then (if ¬ y = 1 then (zz_u (zz_u I 2 15 ((I 2 15) ||| (1 <<< (x &&& 31)))) 2 16 ((I 2 16) &&& ((1 <<< (x &&& 31)) ^^^ ((-1))))) else (zz_u (zz_u I 2 15 ((I 2 15) ||| (1 <<< (x &&& 31)))) 2 16 ((I 2 16) ||| (1 <<< (x &&& 31))))) else I))
theorem zr_X11_bow (F : zz_F) (I : Nat → Nat → Int32) (J : Nat → Nat → Int64) (d : Nat) (x : Int32) (y : Int32) : zz_run (d+1) 168 0 [some (.ref 2), some (.int (x)), some (.int (y)), none] [] (zz_S F I J) (some (.int (zv_X11_bow I x y))) (zz_S F (zw_X11_bow I x y) (J)) := by
  unfold zv_X11_bow zw_X11_bow
  refine zs_168_0 ?_
  repeat' first | refine And.intro rfl ?_ | refine And.intro (Or.inl rfl) ?_ | refine And.intro (Or.inr rfl) ?_ | refine And.intro (Nat.le_of_ble_eq_true rfl) ?_ | refine And.intro (And.intro rfl rfl) ?_ | exact rfl
  refine Exists.intro _ (Exists.intro _ (And.intro (zr_X11_isPerson F I J d x) ?_))
  repeat' first | refine And.intro rfl ?_ | refine And.intro (Or.inl rfl) ?_ | refine And.intro (Or.inr rfl) ?_ | refine And.intro (Nat.le_of_ble_eq_true rfl) ?_ | refine And.intro (And.intro rfl rfl) ?_ | exact rfl
  refine And.intro (fun (h1 : (zv_X11_isPerson x) = 0) => ?_) (fun (h1 : ¬ ((zv_X11_isPerson x) = 0)) => ?_)
  · try simp only [if_pos h1]
    refine zs_168_16 ?_
    repeat' first | refine And.intro rfl ?_ | refine And.intro (Or.inl rfl) ?_ | refine And.intro (Or.inr rfl) ?_ | refine And.intro (Nat.le_of_ble_eq_true rfl) ?_ | refine And.intro (And.intro rfl rfl) ?_ | exact rfl
  · try simp only [if_neg h1]
    repeat' first | refine And.intro rfl ?_ | refine And.intro (Or.inl rfl) ?_ | refine And.intro (Or.inr rfl) ?_ | refine And.intro (Nat.le_of_ble_eq_true rfl) ?_ | refine And.intro (And.intro rfl rfl) ?_ | exact rfl
    refine And.intro (fun (h2 : y < 0) => ?_) (fun (h2 : ¬ (y < 0)) => ?_)
    · try simp only [if_pos h2]
      refine zs_168_16 ?_
      repeat' first | refine And.intro rfl ?_ | refine And.intro (Or.inl rfl) ?_ | refine And.intro (Or.inr rfl) ?_ | refine And.intro (Nat.le_of_ble_eq_true rfl) ?_ | refine And.intro (And.intro rfl rfl) ?_ | exact rfl
    · try simp only [if_neg h2]
      repeat' first | refine And.intro rfl ?_ | refine And.intro (Or.inl rfl) ?_ | refine And.intro (Or.inr rfl) ?_ | refine And.intro (Nat.le_of_ble_eq_true rfl) ?_ | refine And.intro (And.intro rfl rfl) ?_ | exact rfl
      refine And.intro (fun (h3 : y ≤ 1) => ?_) (fun (h3 : ¬ (y ≤ 1)) => ?_)
      · try simp only [if_pos h3]
        refine zs_168_18 ?_
        repeat' first | refine And.intro rfl ?_ | refine And.intro (Or.inl rfl) ?_ | refine And.intro (Or.inr rfl) ?_ | refine And.intro (Nat.le_of_ble_eq_true rfl) ?_ | refine And.intro (And.intro rfl rfl) ?_ | exact rfl
        refine And.intro (fun (h4 : ¬ y = 1) => ?_) (fun (h4 : ¬ (¬ y = 1)) => ?_)
        · try simp only [if_pos h4]
          refine zs_168_47 ?_
          repeat' first | refine And.intro rfl ?_ | refine And.intro (Or.inl rfl) ?_ | refine And.intro (Or.inr rfl) ?_ | refine And.intro (Nat.le_of_ble_eq_true rfl) ?_ | refine And.intro (And.intro rfl rfl) ?_ | exact rfl
          refine zs_168_55 ?_
          repeat' first | refine And.intro rfl ?_ | refine And.intro (Or.inl rfl) ?_ | refine And.intro (Or.inr rfl) ?_ | refine And.intro (Nat.le_of_ble_eq_true rfl) ?_ | refine And.intro (And.intro rfl rfl) ?_ | exact rfl
          refine Exists.intro _ (Exists.intro _ (And.intro (zr_J6_bitCount F (zz_u (zz_u I 2 15 ((I 2 15) ||| (1 <<< (x &&& 31)))) 2 16 ((I 2 16) &&& ((1 <<< (x &&& 31)) ^^^ ((-1))))) J d ((I 2 15) ||| (1 <<< (x &&& 31)))) ?_))
          repeat' first | refine And.intro rfl ?_ | refine And.intro (Or.inl rfl) ?_ | refine And.intro (Or.inr rfl) ?_ | refine And.intro (Nat.le_of_ble_eq_true rfl) ?_ | refine And.intro (And.intro rfl rfl) ?_ | exact rfl
        · try simp only [if_neg h4]
          repeat' first | refine And.intro rfl ?_ | refine And.intro (Or.inl rfl) ?_ | refine And.intro (Or.inr rfl) ?_ | refine And.intro (Nat.le_of_ble_eq_true rfl) ?_ | refine And.intro (And.intro rfl rfl) ?_ | exact rfl
          refine zs_168_55 ?_
          repeat' first | refine And.intro rfl ?_ | refine And.intro (Or.inl rfl) ?_ | refine And.intro (Or.inr rfl) ?_ | refine And.intro (Nat.le_of_ble_eq_true rfl) ?_ | refine And.intro (And.intro rfl rfl) ?_ | exact rfl
          refine Exists.intro _ (Exists.intro _ (And.intro (zr_J6_bitCount F (zz_u (zz_u I 2 15 ((I 2 15) ||| (1 <<< (x &&& 31)))) 2 16 ((I 2 16) ||| (1 <<< (x &&& 31)))) J d ((I 2 15) ||| (1 <<< (x &&& 31)))) ?_))
          repeat' first | refine And.intro rfl ?_ | refine And.intro (Or.inl rfl) ?_ | refine And.intro (Or.inr rfl) ?_ | refine And.intro (Nat.le_of_ble_eq_true rfl) ?_ | refine And.intro (And.intro rfl rfl) ?_ | exact rfl
      · try simp only [if_neg h3]
        repeat' first | refine And.intro rfl ?_ | refine And.intro (Or.inl rfl) ?_ | refine And.intro (Or.inr rfl) ?_ | refine And.intro (Nat.le_of_ble_eq_true rfl) ?_ | refine And.intro (And.intro rfl rfl) ?_ | exact rfl
        refine zs_168_16 ?_
        repeat' first | refine And.intro rfl ?_ | refine And.intro (Or.inl rfl) ?_ | refine And.intro (Or.inr rfl) ?_ | refine And.intro (Nat.le_of_ble_eq_true rfl) ?_ | refine And.intro (And.intro rfl rfl) ?_ | exact rfl
def zv_X11_forget (I : Nat → Nat → Int32)  : Int32 := zv_J6_bitCount (I 2 15)
def zw_X11_forget (I : Nat → Nat → Int32)  : Nat → Nat → Int32 := zz_u (zz_u I 2 15 0) 2 16 0
theorem zr_X11_forget (F : zz_F) (I : Nat → Nat → Int32) (J : Nat → Nat → Int64) (d : Nat)  : zz_run (d+1) 169 0 [some (.ref 2), none] [] (zz_S F I J) (some (.int (zv_X11_forget I))) (zz_S F (zw_X11_forget I) (J)) := by
  unfold zv_X11_forget zw_X11_forget
  refine zs_169_0 ?_
  repeat' first | refine And.intro rfl ?_ | refine And.intro (Or.inl rfl) ?_ | refine And.intro (Or.inr rfl) ?_ | refine And.intro (Nat.le_of_ble_eq_true rfl) ?_ | refine And.intro (And.intro rfl rfl) ?_ | exact rfl
  refine Exists.intro _ (Exists.intro _ (And.intro (zr_J6_bitCount F I J d (I 2 15)) ?_))
  repeat' first | refine And.intro rfl ?_ | refine And.intro (Or.inl rfl) ?_ | refine And.intro (Or.inr rfl) ?_ | refine And.intro (Nat.le_of_ble_eq_true rfl) ?_ | refine And.intro (And.intro rfl rfl) ?_ | exact rfl
def zw_X11_tell (I : Nat → Nat → Int32) (J : Nat → Nat → Int64) (x : Int64) : Nat → Nat → Int32 := zw_X11_addNumber (zz_u I 2 3 0) J x
def zx_X11_tell (I : Nat → Nat → Int32) (J : Nat → Nat → Int64) (x : Int64) : Nat → Nat → Int64 := zx_X11_addNumber (zz_u I 2 3 0) J x
theorem zr_X11_tell (F : zz_F) (I : Nat → Nat → Int32) (J : Nat → Nat → Int64) (d : Nat) (x : Int64) : zz_run (d+1) 184 0 [some (.ref 2), some (.long (x)), none] [] (zz_S F I J) none (zz_S F (zw_X11_tell I J x) (zx_X11_tell I J x)) := by
  unfold zw_X11_tell zx_X11_tell
  refine zs_184_0 ?_
  repeat' first | refine And.intro rfl ?_ | refine And.intro (Or.inl rfl) ?_ | refine And.intro (Or.inr rfl) ?_ | refine And.intro (Nat.le_of_ble_eq_true rfl) ?_ | refine And.intro (And.intro rfl rfl) ?_ | exact rfl
  refine Exists.intro _ (Exists.intro _ (And.intro (zr_X11_addNumber F (zz_u I 2 3 0) J d x) ?_))
  repeat' first | refine And.intro rfl ?_ | refine And.intro (Or.inl rfl) ?_ | refine And.intro (Or.inr rfl) ?_ | refine And.intro (Nat.le_of_ble_eq_true rfl) ?_ | refine And.intro (And.intro rfl rfl) ?_ | exact rfl
def zw_X11_tell_ (I : Nat → Nat → Int32) (J : Nat → Nat → Int64) (x : Int64) (y : Int64) : Nat → Nat → Int32 := zw_X11_addNumber (zw_X11_tell I J x) (zx_X11_tell I J x) y
def zx_X11_tell_ (I : Nat → Nat → Int32) (J : Nat → Nat → Int64) (x : Int64) (y : Int64) : Nat → Nat → Int64 := zx_X11_addNumber (zw_X11_tell I J x) (zx_X11_tell I J x) y
theorem zr_X11_tell_ (F : zz_F) (I : Nat → Nat → Int32) (J : Nat → Nat → Int64) (d : Nat) (x : Int64) (y : Int64) : zz_run (d+2) 185 0 [some (.ref 2), some (.long (x)), none, some (.long (y)), none] [] (zz_S F I J) none (zz_S F (zw_X11_tell_ I J x y) (zx_X11_tell_ I J x y)) := by
  unfold zw_X11_tell_ zx_X11_tell_
  refine zs_185_0 ?_
  repeat' first | refine And.intro rfl ?_ | refine And.intro (Or.inl rfl) ?_ | refine And.intro (Or.inr rfl) ?_ | refine And.intro (Nat.le_of_ble_eq_true rfl) ?_ | refine And.intro (And.intro rfl rfl) ?_ | exact rfl
  refine Exists.intro _ (Exists.intro _ (And.intro (zr_X11_tell F I J d x) ?_))
  repeat' first | refine And.intro rfl ?_ | refine And.intro (Or.inl rfl) ?_ | refine And.intro (Or.inr rfl) ?_ | refine And.intro (Nat.le_of_ble_eq_true rfl) ?_ | refine And.intro (And.intro rfl rfl) ?_ | exact rfl
  refine Exists.intro _ (Exists.intro _ (And.intro (zr_X11_addNumber F (zw_X11_tell I J x) (zx_X11_tell I J x) (d+1) y) ?_))
  repeat' first | refine And.intro rfl ?_ | refine And.intro (Or.inl rfl) ?_ | refine And.intro (Or.inr rfl) ?_ | refine And.intro (Nat.le_of_ble_eq_true rfl) ?_ | refine And.intro (And.intro rfl rfl) ?_ | exact rfl
def zw_X11_tell__ (I : Nat → Nat → Int32) (J : Nat → Nat → Int64) (x : Int64) (y : Int64) (z : Int64) : Nat → Nat → Int32 := zw_X11_addNumber (zw_X11_tell_ I J x y) (zx_X11_tell_ I J x y) z
def zx_X11_tell__ (I : Nat → Nat → Int32) (J : Nat → Nat → Int64) (x : Int64) (y : Int64) (z : Int64) : Nat → Nat → Int64 := zx_X11_addNumber (zw_X11_tell_ I J x y) (zx_X11_tell_ I J x y) z
theorem zr_X11_tell__ (F : zz_F) (I : Nat → Nat → Int32) (J : Nat → Nat → Int64) (d : Nat) (x : Int64) (y : Int64) (z : Int64) : zz_run (d+3) 186 0 [some (.ref 2), some (.long (x)), none, some (.long (y)), none, some (.long (z)), none] [] (zz_S F I J) none (zz_S F (zw_X11_tell__ I J x y z) (zx_X11_tell__ I J x y z)) := by
  unfold zw_X11_tell__ zx_X11_tell__
  refine zs_186_0 ?_
  repeat' first | refine And.intro rfl ?_ | refine And.intro (Or.inl rfl) ?_ | refine And.intro (Or.inr rfl) ?_ | refine And.intro (Nat.le_of_ble_eq_true rfl) ?_ | refine And.intro (And.intro rfl rfl) ?_ | exact rfl
  refine Exists.intro _ (Exists.intro _ (And.intro (zr_X11_tell_ F I J d x y) ?_))
  repeat' first | refine And.intro rfl ?_ | refine And.intro (Or.inl rfl) ?_ | refine And.intro (Or.inr rfl) ?_ | refine And.intro (Nat.le_of_ble_eq_true rfl) ?_ | refine And.intro (And.intro rfl rfl) ?_ | exact rfl
  refine Exists.intro _ (Exists.intro _ (And.intro (zr_X11_addNumber F (zw_X11_tell_ I J x y) (zx_X11_tell_ I J x y) (d+2) z) ?_))
  repeat' first | refine And.intro rfl ?_ | refine And.intro (Or.inl rfl) ?_ | refine And.intro (Or.inr rfl) ?_ | refine And.intro (Nat.le_of_ble_eq_true rfl) ?_ | refine And.intro (And.intro rfl rfl) ?_ | exact rfl
def zv_X11_comingBeside (I : Nat → Nat → Int32) (x : Int32) : Int32 := zv_J6_bitCount ((I 8 2) &&& (zv_X9_scenesOf I (zz_f I x 0)))
theorem zr_X11_comingBeside (F : zz_F) (I : Nat → Nat → Int32) (J : Nat → Nat → Int64) (d : Nat) (x : Int32) : zz_run (d+1) 192 0 [some (.ref 2), some (.int (x))] [] (zz_S F I J) (some (.int (zv_X11_comingBeside I x))) (zz_S F (I) (J)) := by
  unfold zv_X11_comingBeside
  refine zs_192_0 ?_
  repeat' first | refine And.intro rfl ?_ | refine And.intro (Or.inl rfl) ?_ | refine And.intro (Or.inr rfl) ?_ | refine And.intro (Nat.le_of_ble_eq_true rfl) ?_ | refine And.intro (And.intro rfl rfl) ?_ | exact rfl
  refine Exists.intro _ (Exists.intro _ (And.intro (zr_of F I J d x 0) ?_))
  repeat' first | refine And.intro rfl ?_ | refine And.intro (Or.inl rfl) ?_ | refine And.intro (Or.inr rfl) ?_ | refine And.intro (Nat.le_of_ble_eq_true rfl) ?_ | refine And.intro (And.intro rfl rfl) ?_ | exact rfl
  refine Exists.intro _ (Exists.intro _ (And.intro (zr_X9_scenesOf F I J d (zz_f I x 0)) ?_))
  repeat' first | refine And.intro rfl ?_ | refine And.intro (Or.inl rfl) ?_ | refine And.intro (Or.inr rfl) ?_ | refine And.intro (Nat.le_of_ble_eq_true rfl) ?_ | refine And.intro (And.intro rfl rfl) ?_ | exact rfl
  refine Exists.intro _ (Exists.intro _ (And.intro (zr_J6_bitCount F I J d ((I 8 2) &&& (zv_X9_scenesOf I (zz_f I x 0)))) ?_))
  repeat' first | refine And.intro rfl ?_ | refine And.intro (Or.inl rfl) ?_ | refine And.intro (Or.inr rfl) ?_ | refine And.intro (Nat.le_of_ble_eq_true rfl) ?_ | refine And.intro (And.intro rfl rfl) ?_ | exact rfl
def zv_X12_bow (I : Nat → Nat → Int32) (x : Int32) (y : Int32) : Int32 := if (zv_X12_in x 0 5) = 0 then ((-1)) else (if ¬ (zv_X12_in y 0 1) = 0 then (zv_J6_bitCount ((I 52 43) ||| (1 <<< (x &&& 31)))) else ((-1)))
def zw_X12_bow (I : Nat → Nat → Int32) (x : Int32) (y : Int32) : Nat → Nat → Int32 := if (zv_X12_in x 0 5) = 0 then (zz_u I 52 7 0) else (if ¬ (zv_X12_in y 0 1) = 0 then (zz_u (zz_u (zz_u I 52 7 0) 52 43 ((I 52 43) ||| (1 <<< (x &&& 31)))) 52 44 (((I 52 44) &&& ((1 <<< (x &&& 31)) ^^^ ((-1)))) ||| (y <<< (x &&& 31)))) else (zz_u I 52 7 0))
theorem zr_X12_bow (F : zz_F) (I : Nat → Nat → Int32) (J : Nat → Nat → Int64) (d : Nat) (x : Int32) (y : Int32) : zz_run (d+1) 295 0 [some (.ref 52), some (.int (x)), some (.int (y))] [] (zz_S F I J) (some (.int (zv_X12_bow I x y))) (zz_S F (zw_X12_bow I x y) (J)) := by
  unfold zv_X12_bow zw_X12_bow
  refine zs_295_0 ?_
  repeat' first | refine And.intro rfl ?_ | refine And.intro (Or.inl rfl) ?_ | refine And.intro (Or.inr rfl) ?_ | refine And.intro (Nat.le_of_ble_eq_true rfl) ?_ | refine And.intro (And.intro rfl rfl) ?_ | exact rfl
  refine Exists.intro _ (Exists.intro _ (And.intro (zr_X12_in F (zz_u I 52 7 0) J d x 0 5) ?_))
  repeat' first | refine And.intro rfl ?_ | refine And.intro (Or.inl rfl) ?_ | refine And.intro (Or.inr rfl) ?_ | refine And.intro (Nat.le_of_ble_eq_true rfl) ?_ | refine And.intro (And.intro rfl rfl) ?_ | exact rfl
  refine And.intro (fun (h1 : (zv_X12_in x 0 5) = 0) => ?_) (fun (h1 : ¬ ((zv_X12_in x 0 5) = 0)) => ?_)
  · try simp only [if_pos h1]
    refine zs_295_23 ?_
    repeat' first | refine And.intro rfl ?_ | refine And.intro (Or.inl rfl) ?_ | refine And.intro (Or.inr rfl) ?_ | refine And.intro (Nat.le_of_ble_eq_true rfl) ?_ | refine And.intro (And.intro rfl rfl) ?_ | exact rfl
  · try simp only [if_neg h1]
    repeat' first | refine And.intro rfl ?_ | refine And.intro (Or.inl rfl) ?_ | refine And.intro (Or.inr rfl) ?_ | refine And.intro (Nat.le_of_ble_eq_true rfl) ?_ | refine And.intro (And.intro rfl rfl) ?_ | exact rfl
    refine Exists.intro _ (Exists.intro _ (And.intro (zr_X12_in F (zz_u I 52 7 0) J d y 0 1) ?_))
    repeat' first | refine And.intro rfl ?_ | refine And.intro (Or.inl rfl) ?_ | refine And.intro (Or.inr rfl) ?_ | refine And.intro (Nat.le_of_ble_eq_true rfl) ?_ | refine And.intro (And.intro rfl rfl) ?_ | exact rfl
    refine And.intro (fun (h2 : ¬ (zv_X12_in y 0 1) = 0) => ?_) (fun (h2 : ¬ (¬ (zv_X12_in y 0 1) = 0)) => ?_)
    · try simp only [if_pos h2]
      refine zs_295_25 ?_
      repeat' first | refine And.intro rfl ?_ | refine And.intro (Or.inl rfl) ?_ | refine And.intro (Or.inr rfl) ?_ | refine And.intro (Nat.le_of_ble_eq_true rfl) ?_ | refine And.intro (And.intro rfl rfl) ?_ | exact rfl
      refine Exists.intro _ (Exists.intro _ (And.intro (zr_J6_bitCount F (zz_u (zz_u (zz_u I 52 7 0) 52 43 ((I 52 43) ||| (1 <<< (x &&& 31)))) 52 44 (((I 52 44) &&& ((1 <<< (x &&& 31)) ^^^ ((-1)))) ||| (y <<< (x &&& 31)))) J d ((I 52 43) ||| (1 <<< (x &&& 31)))) ?_))
      repeat' first | refine And.intro rfl ?_ | refine And.intro (Or.inl rfl) ?_ | refine And.intro (Or.inr rfl) ?_ | refine And.intro (Nat.le_of_ble_eq_true rfl) ?_ | refine And.intro (And.intro rfl rfl) ?_ | exact rfl
    · try simp only [if_neg h2]
      repeat' first | refine And.intro rfl ?_ | refine And.intro (Or.inl rfl) ?_ | refine And.intro (Or.inr rfl) ?_ | refine And.intro (Nat.le_of_ble_eq_true rfl) ?_ | refine And.intro (And.intro rfl rfl) ?_ | exact rfl
      refine zs_295_23 ?_
      repeat' first | refine And.intro rfl ?_ | refine And.intro (Or.inl rfl) ?_ | refine And.intro (Or.inr rfl) ?_ | refine And.intro (Nat.le_of_ble_eq_true rfl) ?_ | refine And.intro (And.intro rfl rfl) ?_ | exact rfl
def zv_X12_forget (I : Nat → Nat → Int32)  : Int32 := zv_J6_bitCount (I 52 43)
def zw_X12_forget (I : Nat → Nat → Int32)  : Nat → Nat → Int32 := zz_u (zz_u (zz_u I 52 7 0) 52 43 0) 52 44 0
theorem zr_X12_forget (F : zz_F) (I : Nat → Nat → Int32) (J : Nat → Nat → Int64) (d : Nat)  : zz_run (d+1) 296 0 [some (.ref 52), none] [] (zz_S F I J) (some (.int (zv_X12_forget I))) (zz_S F (zw_X12_forget I) (J)) := by
  unfold zv_X12_forget zw_X12_forget
  refine zs_296_0 ?_
  repeat' first | refine And.intro rfl ?_ | refine And.intro (Or.inl rfl) ?_ | refine And.intro (Or.inr rfl) ?_ | refine And.intro (Nat.le_of_ble_eq_true rfl) ?_ | refine And.intro (And.intro rfl rfl) ?_ | exact rfl
  refine Exists.intro _ (Exists.intro _ (And.intro (zr_J6_bitCount F (zz_u I 52 7 0) J d (I 52 43)) ?_))
  repeat' first | refine And.intro rfl ?_ | refine And.intro (Or.inl rfl) ?_ | refine And.intro (Or.inr rfl) ?_ | refine And.intro (Nat.le_of_ble_eq_true rfl) ?_ | refine And.intro (And.intro rfl rfl) ?_ | exact rfl
def zv_X8_takesAhead (I : Nat → Nat → Int32) (x : Int32) : Int32 := if ¬ x = 45 then (if ¬ x = 40 then (if (zv_X8_isDigit x) = 0 then (if (zv_X8_isThing x) = 0 then 0 else 1) else 1) else (zv_X8_opens I)) else 1
def zw_X8_takesAhead (I : Nat → Nat → Int32) (x : Int32) : Nat → Nat → Int32 := if ¬ x = 45 then (if ¬ x = 40 then (if (zv_X8_isDigit x) = 0 then (if (zv_X8_isThing x) = 0 then I else (zz_u (zz_u (zw_X8_emit I (-x)) 37 6 0) 37 7 0)) else (zz_u (zz_u (zw_X8_emit I (x - 48)) 37 6 1) 37 7 0)) else (zw_X8_opens I)) else (zw_X8_hold I 256)
theorem zr_X8_takesAhead (F : zz_F) (I : Nat → Nat → Int32) (J : Nat → Nat → Int64) (d : Nat) (x : Int32) : zz_run (d+2) 104 0 [some (.ref 37), some (.int (x))] [] (zz_S F I J) (some (.int (zv_X8_takesAhead I x))) (zz_S F (zw_X8_takesAhead I x) (J)) := by
  unfold zv_X8_takesAhead zw_X8_takesAhead
  refine zs_104_0 ?_
  repeat' first | refine And.intro rfl ?_ | refine And.intro (Or.inl rfl) ?_ | refine And.intro (Or.inr rfl) ?_ | refine And.intro (Nat.le_of_ble_eq_true rfl) ?_ | refine And.intro (And.intro rfl rfl) ?_ | exact rfl
  refine And.intro (fun (h1 : ¬ x = 45) => ?_) (fun (h1 : ¬ (¬ x = 45)) => ?_)
  · try simp only [if_pos h1]
    refine zs_104_15 ?_
    repeat' first | refine And.intro rfl ?_ | refine And.intro (Or.inl rfl) ?_ | refine And.intro (Or.inr rfl) ?_ | refine And.intro (Nat.le_of_ble_eq_true rfl) ?_ | refine And.intro (And.intro rfl rfl) ?_ | exact rfl
    refine And.intro (fun (h2 : ¬ x = 40) => ?_) (fun (h2 : ¬ (¬ x = 40)) => ?_)
    · try simp only [if_pos h2]
      refine zs_104_26 ?_
      repeat' first | refine And.intro rfl ?_ | refine And.intro (Or.inl rfl) ?_ | refine And.intro (Or.inr rfl) ?_ | refine And.intro (Nat.le_of_ble_eq_true rfl) ?_ | refine And.intro (And.intro rfl rfl) ?_ | exact rfl
      refine Exists.intro _ (Exists.intro _ (And.intro (zr_X8_isDigit F I J (d+1) x) ?_))
      repeat' first | refine And.intro rfl ?_ | refine And.intro (Or.inl rfl) ?_ | refine And.intro (Or.inr rfl) ?_ | refine And.intro (Nat.le_of_ble_eq_true rfl) ?_ | refine And.intro (And.intro rfl rfl) ?_ | exact rfl
      refine And.intro (fun (h3 : (zv_X8_isDigit x) = 0) => ?_) (fun (h3 : ¬ ((zv_X8_isDigit x) = 0)) => ?_)
      · try simp only [if_pos h3]
        refine zs_104_49 ?_
        repeat' first | refine And.intro rfl ?_ | refine And.intro (Or.inl rfl) ?_ | refine And.intro (Or.inr rfl) ?_ | refine And.intro (Nat.le_of_ble_eq_true rfl) ?_ | refine And.intro (And.intro rfl rfl) ?_ | exact rfl
        refine Exists.intro _ (Exists.intro _ (And.intro (zr_X8_isThing F I J (d+1) x) ?_))
        repeat' first | refine And.intro rfl ?_ | refine And.intro (Or.inl rfl) ?_ | refine And.intro (Or.inr rfl) ?_ | refine And.intro (Nat.le_of_ble_eq_true rfl) ?_ | refine And.intro (And.intro rfl rfl) ?_ | exact rfl
        refine And.intro (fun (h4 : (zv_X8_isThing x) = 0) => ?_) (fun (h4 : ¬ ((zv_X8_isThing x) = 0)) => ?_)
        · try simp only [if_pos h4]
          refine zs_104_70 ?_
          repeat' first | refine And.intro rfl ?_ | refine And.intro (Or.inl rfl) ?_ | refine And.intro (Or.inr rfl) ?_ | refine And.intro (Nat.le_of_ble_eq_true rfl) ?_ | refine And.intro (And.intro rfl rfl) ?_ | exact rfl
        · try simp only [if_neg h4]
          repeat' first | refine And.intro rfl ?_ | refine And.intro (Or.inl rfl) ?_ | refine And.intro (Or.inr rfl) ?_ | refine And.intro (Nat.le_of_ble_eq_true rfl) ?_ | refine And.intro (And.intro rfl rfl) ?_ | exact rfl
          refine Exists.intro _ (Exists.intro _ (And.intro (zr_X8_emit F I J (d+1) (-x)) ?_))
          repeat' first | refine And.intro rfl ?_ | refine And.intro (Or.inl rfl) ?_ | refine And.intro (Or.inr rfl) ?_ | refine And.intro (Nat.le_of_ble_eq_true rfl) ?_ | refine And.intro (And.intro rfl rfl) ?_ | exact rfl
          refine zs_104_72 ?_
          repeat' first | refine And.intro rfl ?_ | refine And.intro (Or.inl rfl) ?_ | refine And.intro (Or.inr rfl) ?_ | refine And.intro (Nat.le_of_ble_eq_true rfl) ?_ | refine And.intro (And.intro rfl rfl) ?_ | exact rfl
      · try simp only [if_neg h3]
        repeat' first | refine And.intro rfl ?_ | refine And.intro (Or.inl rfl) ?_ | refine And.intro (Or.inr rfl) ?_ | refine And.intro (Nat.le_of_ble_eq_true rfl) ?_ | refine And.intro (And.intro rfl rfl) ?_ | exact rfl
        refine Exists.intro _ (Exists.intro _ (And.intro (zr_X8_emit F I J (d+1) (x - 48)) ?_))
        repeat' first | refine And.intro rfl ?_ | refine And.intro (Or.inl rfl) ?_ | refine And.intro (Or.inr rfl) ?_ | refine And.intro (Nat.le_of_ble_eq_true rfl) ?_ | refine And.intro (And.intro rfl rfl) ?_ | exact rfl
        refine zs_104_72 ?_
        repeat' first | refine And.intro rfl ?_ | refine And.intro (Or.inl rfl) ?_ | refine And.intro (Or.inr rfl) ?_ | refine And.intro (Nat.le_of_ble_eq_true rfl) ?_ | refine And.intro (And.intro rfl rfl) ?_ | exact rfl
    · try simp only [if_neg h2]
      repeat' first | refine And.intro rfl ?_ | refine And.intro (Or.inl rfl) ?_ | refine And.intro (Or.inr rfl) ?_ | refine And.intro (Nat.le_of_ble_eq_true rfl) ?_ | refine And.intro (And.intro rfl rfl) ?_ | exact rfl
      refine Exists.intro _ (Exists.intro _ (And.intro (zr_X8_opens F I J d ) ?_))
      repeat' first | refine And.intro rfl ?_ | refine And.intro (Or.inl rfl) ?_ | refine And.intro (Or.inr rfl) ?_ | refine And.intro (Nat.le_of_ble_eq_true rfl) ?_ | refine And.intro (And.intro rfl rfl) ?_ | exact rfl
      exact zz_nb (zb_X8_opens I)
  · try simp only [if_neg h1]
    repeat' first | refine And.intro rfl ?_ | refine And.intro (Or.inl rfl) ?_ | refine And.intro (Or.inr rfl) ?_ | refine And.intro (Nat.le_of_ble_eq_true rfl) ?_ | refine And.intro (And.intro rfl rfl) ?_ | exact rfl
    refine Exists.intro _ (Exists.intro _ (And.intro (zr_X8_hold F I J (d+1) 256) ?_))
    repeat' first | refine And.intro rfl ?_ | refine And.intro (Or.inl rfl) ?_ | refine And.intro (Or.inr rfl) ?_ | refine And.intro (Nat.le_of_ble_eq_true rfl) ?_ | refine And.intro (And.intro rfl rfl) ?_ | exact rfl
theorem zb_X8_takesAhead (I : Nat → Nat → Int32) (x : Int32) : zv_X8_takesAhead I x = 0 ∨ zv_X8_takesAhead I x = 1 := by
  unfold zv_X8_takesAhead
  repeat' first | split | exact Or.inl rfl | exact Or.inr rfl | exact zb_X8_opens I
