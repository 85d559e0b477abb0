/-! methods with loops, printed by wip/whole/loop.py -/
def zb_X12_fitting_0 (N : Nat) (rec : Nat → Int32 → Int32 → (Nat → Nat → Int32) → (Nat → Nat → Int64) → Option (Int32 × (Nat → Nat → Int32) × (Nat → Nat → Int64))) (l1 : Int32) (l2 : Int32) (I : Nat → Nat → Int32) (J : Nat → Nat → Int64) : Option (Int32 × (Nat → Nat → Int32) × (Nat → Nat → Int64)) := rec 4 0 0 I J
def zb_X12_fitting_4 (N : Nat) (rec : Nat → Int32 → Int32 → (Nat → Nat → Int32) → (Nat → Nat → Int64) → Option (Int32 × (Nat → Nat → Int32) × (Nat → Nat → Int64))) (l1 : Int32) (l2 : Int32) (I : Nat → Nat → Int32) (J : Nat → Nat → Int64) : Option (Int32 × (Nat → Nat → Int32) × (Nat → Nat → Int64)) := if (I 52 1) ≤ l2 then (some (l1, I, J)) else (if ¬ (((7 * l2) + 2) < 0 ∨ 84 ≤ ((7 * l2) + 2).toNatClampNeg) then (if ¬ (((zv_X12_field I l2 2) ^^^ (I 52 44)) &&& (I 52 43)) = 0 then (rec 4 (l1 ||| 0) (l2 + 1) I J) else (rec 4 (l1 ||| ((1 : Int32) <<< (l2 &&& 31))) (l2 + 1) I J)) else none)
def zl_X12_fitting (N : Nat) : Nat → Nat → Int32 → Int32 → (Nat → Nat → Int32) → (Nat → Nat → Int64) → Option (Int32 × (Nat → Nat → Int32) × (Nat → Nat → Int64))
  | 0 => fun _ _ _ _ _ => none
  | n + 1 => fun pc l1 l2 I J => if pc = 0 then zb_X12_fitting_0 N (zl_X12_fitting N n) l1 l2 I J else (if pc = 4 then zb_X12_fitting_4 N (zl_X12_fitting N n) l1 l2 I J else none)
def zf_X12_fitting (N : Nat)  (I : Nat → Nat → Int32) (J : Nat → Nat → Int64) : Option (Int32 × (Nat → Nat → Int32) × (Nat → Nat → Int64)) := zl_X12_fitting N N 0 0 0 I J
theorem zq_X12_fitting (F : zz_F) (d N : Nat) : ∀ n : Nat, (∀ (l1 : Int32) (l2 : Int32) (I : Nat → Nat → Int32) (J : Nat → Nat → Int64) (r : Int32 × (Nat → Nat → Int32) × (Nat → Nat → Int64)), zl_X12_fitting N n 0 l1 l2 I J = some r → zz_run (d+1) 297 0 [some (.ref 52), none, none] [] (zz_S F I J) (some (.int (r.1))) (zz_S F (I) (J))) ∧ (∀ (l1 : Int32) (l2 : Int32) (I : Nat → Nat → Int32) (J : Nat → Nat → Int64) (r : Int32 × (Nat → Nat → Int32) × (Nat → Nat → Int64)), zl_X12_fitting N n 4 l1 l2 I J = some r → zz_run (d+1) 297 4 [some (.ref 52), some (.int (l1)), some (.int (l2))] [] (zz_S F I J) (some (.int (r.1))) (zz_S F (I) (J))) := by
  intro n
  induction n with
  | zero => exact ⟨fun _ _ _ _ _ h => zz_no h, fun _ _ _ _ _ h => zz_no h⟩
  | succ n ih =>
    obtain ⟨ih0, ih4⟩ := ih
    refine ⟨?_, ?_⟩
    · intro l1 l2 I J r hr
      replace hr : zb_X12_fitting_0 N (zl_X12_fitting N n) l1 l2 I J = some r := hr
      unfold zb_X12_fitting_0 at hr
      refine zs_297_0 ?_
      repeat' first | refine And.intro rfl ?_ | refine And.intro (Or.inl rfl) ?_ | refine And.intro (Or.inr rfl) ?_ | refine And.intro (Nat.le_of_ble_eq_true rfl) ?_ | refine And.intro (And.intro rfl rfl) ?_ | exact rfl
      exact zz_wk [true, true, true] rfl (ih4 _ _ _ _ _ hr)
    · intro l1 l2 I J r hr
      replace hr : zb_X12_fitting_4 N (zl_X12_fitting N n) l1 l2 I J = some r := hr
      unfold zb_X12_fitting_4 at hr
      refine zs_297_4 ?_
      repeat' first | refine And.intro rfl ?_ | refine And.intro (Or.inl rfl) ?_ | refine And.intro (Or.inr rfl) ?_ | refine And.intro (Nat.le_of_ble_eq_true rfl) ?_ | refine And.intro (And.intro rfl rfl) ?_ | exact rfl
      refine And.intro (fun (h1 : (I 52 1) ≤ l2) => ?_) (fun (h1 : ¬ ((I 52 1) ≤ l2)) => ?_)
      · rw [if_pos h1] at hr
        refine zs_297_47 ?_
        repeat' first | refine And.intro rfl ?_ | refine And.intro (Or.inl rfl) ?_ | refine And.intro (Or.inr rfl) ?_ | refine And.intro (Nat.le_of_ble_eq_true rfl) ?_ | refine And.intro (And.intro rfl rfl) ?_ | exact rfl
        cases hr
        repeat' first | refine And.intro rfl ?_ | refine And.intro (Or.inl rfl) ?_ | refine And.intro (Or.inr rfl) ?_ | refine And.intro (Nat.le_of_ble_eq_true rfl) ?_ | refine And.intro (And.intro rfl rfl) ?_ | exact rfl
      · rw [if_neg h1] at hr
        repeat' first | refine And.intro rfl ?_ | refine And.intro (Or.inl rfl) ?_ | refine And.intro (Or.inr rfl) ?_ | refine And.intro (Nat.le_of_ble_eq_true rfl) ?_ | refine And.intro (And.intro rfl rfl) ?_ | exact rfl
        have g1 : ¬ (((7 * l2) + 2) < 0 ∨ 84 ≤ ((7 * l2) + 2).toNatClampNeg) := zz_g hr
        replace hr := zz_gt hr
        refine Exists.intro _ (Exists.intro _ (And.intro (zr_X12_field F I J d l2 2 g1) ?_))
        repeat' first | refine And.intro rfl ?_ | refine And.intro (Or.inl rfl) ?_ | refine And.intro (Or.inr rfl) ?_ | refine And.intro (Nat.le_of_ble_eq_true rfl) ?_ | refine And.intro (And.intro rfl rfl) ?_ | exact rfl
        refine And.intro (fun (h2 : ¬ (((zv_X12_field I l2 2) ^^^ (I 52 44)) &&& (I 52 43)) = 0) => ?_) (fun (h2 : ¬ (¬ (((zv_X12_field I l2 2) ^^^ (I 52 44)) &&& (I 52 43)) = 0)) => ?_)
        · rw [if_pos h2] at hr
          refine zs_297_38 ?_
          repeat' first | refine And.intro rfl ?_ | refine And.intro (Or.inl rfl) ?_ | refine And.intro (Or.inr rfl) ?_ | refine And.intro (Nat.le_of_ble_eq_true rfl) ?_ | refine And.intro (And.intro rfl rfl) ?_ | exact rfl
          refine zs_297_39 ?_
          repeat' first | refine And.intro rfl ?_ | refine And.intro (Or.inl rfl) ?_ | refine And.intro (Or.inr rfl) ?_ | refine And.intro (Nat.le_of_ble_eq_true rfl) ?_ | refine And.intro (And.intro rfl rfl) ?_ | exact rfl
          exact zz_wk [true, true, true] rfl (ih4 _ _ _ _ _ hr)
        · rw [if_neg h2] at hr
          repeat' first | refine And.intro rfl ?_ | refine And.intro (Or.inl rfl) ?_ | refine And.intro (Or.inr rfl) ?_ | refine And.intro (Nat.le_of_ble_eq_true rfl) ?_ | refine And.intro (And.intro rfl rfl) ?_ | exact rfl
          refine zs_297_39 ?_
          repeat' first | refine And.intro rfl ?_ | refine And.intro (Or.inl rfl) ?_ | refine And.intro (Or.inr rfl) ?_ | refine And.intro (Nat.le_of_ble_eq_true rfl) ?_ | refine And.intro (And.intro rfl rfl) ?_ | exact rfl
          exact zz_wk [true, true, true] rfl (ih4 _ _ _ _ _ hr)
theorem zr_X12_fitting (F : zz_F) (I : Nat → Nat → Int32) (J : Nat → Nat → Int64) (d N : Nat)  (r : Int32 × (Nat → Nat → Int32) × (Nat → Nat → Int64)) (h : zf_X12_fitting N  I J = some r) : zz_run (d+1) 297 0 [some (.ref 52), none, none] [] (zz_S F I J) (some (.int (r.1))) (zz_S F (I) (J)) := (zq_X12_fitting F d N N).1 0 0 I J r h
def zb_X12_fits_0 (N : Nat) (rec : Nat → (Nat → Nat → Int32) → (Nat → Nat → Int64) → Option (Int32 × (Nat → Nat → Int32) × (Nat → Nat → Int64)))  (I : Nat → Nat → Int32) (J : Nat → Nat → Int64) : Option (Int32 × (Nat → Nat → Int32) × (Nat → Nat → Int64)) := (zf_X12_fitting N  (zz_u (zz_u I 52 7 0) 52 6 0) J).bind fun r1 => if ¬ (((zz_u (zz_u I 52 7 0) 52 6 0) 52 6) < 0 ∨ 20 ≤ ((zz_u (zz_u I 52 7 0) 52 6 0) 52 6).toNatClampNeg) then ((zf_X12_fitting N  (zw_X12_tell (zz_u (zz_u I 52 7 0) 52 6 0) J ((zv_J6_bitCount r1.1).toInt64)) (zx_X12_tell (zz_u (zz_u I 52 7 0) 52 6 0) J ((zv_J6_bitCount r1.1).toInt64))).bind fun r3 => (zf_X12_ofPlay N r3.1 0 (zw_X12_tell (zz_u (zz_u I 52 7 0) 52 6 0) J ((zv_J6_bitCount r1.1).toInt64)) (zx_X12_tell (zz_u (zz_u I 52 7 0) 52 6 0) J ((zv_J6_bitCount r1.1).toInt64))).bind fun r4 => if ¬ (((zw_X12_tell (zz_u (zz_u I 52 7 0) 52 6 0) J ((zv_J6_bitCount r1.1).toInt64)) 52 6) < 0 ∨ 20 ≤ ((zw_X12_tell (zz_u (zz_u I 52 7 0) 52 6 0) J ((zv_J6_bitCount r1.1).toInt64)) 52 6).toNatClampNeg) then ((zf_X12_fitting N  (zw_X12_tell (zw_X12_tell (zz_u (zz_u I 52 7 0) 52 6 0) J ((zv_J6_bitCount r1.1).toInt64)) (zx_X12_tell (zz_u (zz_u I 52 7 0) 52 6 0) J ((zv_J6_bitCount r1.1).toInt64)) ((zv_J6_bitCount r4.1).toInt64)) (zx_X12_tell (zw_X12_tell (zz_u (zz_u I 52 7 0) 52 6 0) J ((zv_J6_bitCount r1.1).toInt64)) (zx_X12_tell (zz_u (zz_u I 52 7 0) 52 6 0) J ((zv_J6_bitCount r1.1).toInt64)) ((zv_J6_bitCount r4.1).toInt64))).bind fun r6 => some (r6.1, zw_X12_tell (zw_X12_tell (zz_u (zz_u I 52 7 0) 52 6 0) J ((zv_J6_bitCount r1.1).toInt64)) (zx_X12_tell (zz_u (zz_u I 52 7 0) 52 6 0) J ((zv_J6_bitCount r1.1).toInt64)) ((zv_J6_bitCount r4.1).toInt64), zx_X12_tell (zw_X12_tell (zz_u (zz_u I 52 7 0) 52 6 0) J ((zv_J6_bitCount r1.1).toInt64)) (zx_X12_tell (zz_u (zz_u I 52 7 0) 52 6 0) J ((zv_J6_bitCount r1.1).toInt64)) ((zv_J6_bitCount r4.1).toInt64))) else none) else none
def zl_X12_fits (N : Nat) : Nat → Nat → (Nat → Nat → Int32) → (Nat → Nat → Int64) → Option (Int32 × (Nat → Nat → Int32) × (Nat → Nat → Int64))
  | 0 => fun _ _ _ => none
  | n + 1 => fun pc  I J => if pc = 0 then zb_X12_fits_0 N (zl_X12_fits N n)  I J else none
def zf_X12_fits (N : Nat)  (I : Nat → Nat → Int32) (J : Nat → Nat → Int64) : Option (Int32 × (Nat → Nat → Int32) × (Nat → Nat → Int64)) := zl_X12_fits N N 0  I J
theorem zq_X12_fits (F : zz_F) (d N : Nat) : ∀ n : Nat, (∀  (I : Nat → Nat → Int32) (J : Nat → Nat → Int64) (r : Int32 × (Nat → Nat → Int32) × (Nat → Nat → Int64)), zl_X12_fits N n 0  I J = some r → zz_run (d+3) 298 0 [some (.ref 52)] [] (zz_S F I J) (some (.int (r.1))) (zz_S F (r.2.1) (r.2.2))) := by
  intro n
  induction n with
  | zero => exact fun _ _ _ h => zz_no h
  | succ n ih =>
    have ih0 := ih
    skip
    · intro  I J r hr
      replace hr : zb_X12_fits_0 N (zl_X12_fits N n)  I J = some r := hr
      unfold zb_X12_fits_0 at hr
      refine zs_298_0 ?_
      repeat' first | refine And.intro rfl ?_ | refine And.intro (Or.inl rfl) ?_ | refine And.intro (Or.inr rfl) ?_ | refine And.intro (Nat.le_of_ble_eq_true rfl) ?_ | refine And.intro (And.intro rfl rfl) ?_ | exact rfl
      obtain ⟨r1, cr1, hr⟩ := Option.bind_eq_some_iff.mp hr
      refine Exists.intro _ (Exists.intro _ (And.intro (zr_X12_fitting F (zz_u (zz_u I 52 7 0) 52 6 0) J (d+1) N  r1 cr1) ?_))
      repeat' first | refine And.intro rfl ?_ | refine And.intro (Or.inl rfl) ?_ | refine And.intro (Or.inr rfl) ?_ | refine And.intro (Nat.le_of_ble_eq_true rfl) ?_ | refine And.intro (And.intro rfl rfl) ?_ | exact rfl
      refine Exists.intro _ (Exists.intro _ (And.intro (zr_J6_bitCount F (zz_u (zz_u I 52 7 0) 52 6 0) J (d+2) r1.1) ?_))
      repeat' first | refine And.intro rfl ?_ | refine And.intro (Or.inl rfl) ?_ | refine And.intro (Or.inr rfl) ?_ | refine And.intro (Nat.le_of_ble_eq_true rfl) ?_ | refine And.intro (And.intro rfl rfl) ?_ | exact rfl
      have g2 : ¬ (((zz_u (zz_u I 52 7 0) 52 6 0) 52 6) < 0 ∨ 20 ≤ ((zz_u (zz_u I 52 7 0) 52 6 0) 52 6).toNatClampNeg) := zz_g hr
      replace hr := zz_gt hr
      refine Exists.intro _ (Exists.intro _ (And.intro (zr_X12_tell F (zz_u (zz_u I 52 7 0) 52 6 0) J (d+2) ((zv_J6_bitCount r1.1).toInt64) g2) ?_))
      repeat' first | refine And.intro rfl ?_ | refine And.intro (Or.inl rfl) ?_ | refine And.intro (Or.inr rfl) ?_ | refine And.intro (Nat.le_of_ble_eq_true rfl) ?_ | refine And.intro (And.intro rfl rfl) ?_ | exact rfl
      obtain ⟨r3, cr3, hr⟩ := Option.bind_eq_some_iff.mp hr
      refine Exists.intro _ (Exists.intro _ (And.intro (zr_X12_fitting F (zw_X12_tell (zz_u (zz_u I 52 7 0) 52 6 0) J ((zv_J6_bitCount r1.1).toInt64)) (zx_X12_tell (zz_u (zz_u I 52 7 0) 52 6 0) J ((zv_J6_bitCount r1.1).toInt64)) (d+1) N  r3 cr3) ?_))
      repeat' first | refine And.intro rfl ?_ | refine And.intro (Or.inl rfl) ?_ | refine And.intro (Or.inr rfl) ?_ | refine And.intro (Nat.le_of_ble_eq_true rfl) ?_ | refine And.intro (And.intro rfl rfl) ?_ | exact rfl
      obtain ⟨r4, cr4, hr⟩ := Option.bind_eq_some_iff.mp hr
      refine Exists.intro _ (Exists.intro _ (And.intro (zr_X12_ofPlay F (zw_X12_tell (zz_u (zz_u I 52 7 0) 52 6 0) J ((zv_J6_bitCount r1.1).toInt64)) (zx_X12_tell (zz_u (zz_u I 52 7 0) 52 6 0) J ((zv_J6_bitCount r1.1).toInt64)) d N r3.1 0 r4 cr4) ?_))
      repeat' first | refine And.intro rfl ?_ | refine And.intro (Or.inl rfl) ?_ | refine And.intro (Or.inr rfl) ?_ | refine And.intro (Nat.le_of_ble_eq_true rfl) ?_ | refine And.intro (And.intro rfl rfl) ?_ | exact rfl
      refine Exists.intro _ (Exists.intro _ (And.intro (zr_J6_bitCount F (zw_X12_tell (zz_u (zz_u I 52 7 0) 52 6 0) J ((zv_J6_bitCount r1.1).toInt64)) (zx_X12_tell (zz_u (zz_u I 52 7 0) 52 6 0) J ((zv_J6_bitCount r1.1).toInt64)) (d+2) r4.1) ?_))
      repeat' first | refine And.intro rfl ?_ | refine And.intro (Or.inl rfl) ?_ | refine And.intro (Or.inr rfl) ?_ | refine And.intro (Nat.le_of_ble_eq_true rfl) ?_ | refine And.intro (And.intro rfl rfl) ?_ | exact rfl
      have g5 : ¬ (((zw_X12_tell (zz_u (zz_u I 52 7 0) 52 6 0) J ((zv_J6_bitCount r1.1).toInt64)) 52 6) < 0 ∨ 20 ≤ ((zw_X12_tell (zz_u (zz_u I 52 7 0) 52 6 0) J ((zv_J6_bitCount r1.1).toInt64)) 52 6).toNatClampNeg) := zz_g hr
      replace hr := zz_gt hr
      refine Exists.intro _ (Exists.intro _ (And.intro (zr_X12_tell F (zw_X12_tell (zz_u (zz_u I 52 7 0) 52 6 0) J ((zv_J6_bitCount r1.1).toInt64)) (zx_X12_tell (zz_u (zz_u I 52 7 0) 52 6 0) J ((zv_J6_bitCount r1.1).toInt64)) (d+2) ((zv_J6_bitCount r4.1).toInt64) g5) ?_))
      repeat' first | refine And.intro rfl ?_ | refine And.intro (Or.inl rfl) ?_ | refine And.intro (Or.inr rfl) ?_ | refine And.intro (Nat.le_of_ble_eq_true rfl) ?_ | refine And.intro (And.intro rfl rfl) ?_ | exact rfl
      obtain ⟨r6, cr6, hr⟩ := Option.bind_eq_some_iff.mp hr
      refine Exists.intro _ (Exists.intro _ (And.intro (zr_X12_fitting F (zw_X12_tell (zw_X12_tell (zz_u (zz_u I 52 7 0) 52 6 0) J ((zv_J6_bitCount r1.1).toInt64)) (zx_X12_tell (zz_u (zz_u I 52 7 0) 52 6 0) J ((zv_J6_bitCount r1.1).toInt64)) ((zv_J6_bitCount r4.1).toInt64)) (zx_X12_tell (zw_X12_tell (zz_u (zz_u I 52 7 0) 52 6 0) J ((zv_J6_bitCount r1.1).toInt64)) (zx_X12_tell (zz_u (zz_u I 52 7 0) 52 6 0) J ((zv_J6_bitCount r1.1).toInt64)) ((zv_J6_bitCount r4.1).toInt64)) (d+1) N  r6 cr6) ?_))
      repeat' first | refine And.intro rfl ?_ | refine And.intro (Or.inl rfl) ?_ | refine And.intro (Or.inr rfl) ?_ | refine And.intro (Nat.le_of_ble_eq_true rfl) ?_ | refine And.intro (And.intro rfl rfl) ?_ | exact rfl
      cases hr
      repeat' first | refine And.intro rfl ?_ | refine And.intro (Or.inl rfl) ?_ | refine And.intro (Or.inr rfl) ?_ | refine And.intro (Nat.le_of_ble_eq_true rfl) ?_ | refine And.intro (And.intro rfl rfl) ?_ | exact rfl
theorem zr_X12_fits (F : zz_F) (I : Nat → Nat → Int32) (J : Nat → Nat → Int64) (d N : Nat)  (r : Int32 × (Nat → Nat → Int32) × (Nat → Nat → Int64)) (h : zf_X12_fits N  I J = some r) : zz_run (d+3) 298 0 [some (.ref 52)] [] (zz_S F I J) (some (.int (r.1))) (zz_S F (r.2.1) (r.2.2)) := (zq_X12_fits F d N N)  I J r h
def zb_X12_ask_0 (N : Nat) (rec : Nat → Int32 → Int32 → Int32 → Int32 → Int32 → Int32 → (Nat → Nat → Int32) → (Nat → Nat → Int64) → Option (Int32 × (Nat → Nat → Int32) × (Nat → Nat → Int64))) (l1 : Int32) (l2 : Int32) (l3 : Int32) (l4 : Int32) (l5 : Int32) (l6 : Int32) (I : Nat → Nat → Int32) (J : Nat → Nat → Int64) : Option (Int32 × (Nat → Nat → Int32) × (Nat → Nat → Int64)) := (zf_X12_fitting N  (zz_u I 52 7 0) J).bind fun r1 => if ¬ r1.1 = 0 then (rec 26 r1.1 ((-1)) 1000000 0 0 0 (zz_u I 52 7 0) J) else (some ((-2), zz_u I 52 7 0, J))
def zb_X12_ask_26 (N : Nat) (rec : Nat → Int32 → Int32 → Int32 → Int32 → Int32 → Int32 → (Nat → Nat → Int32) → (Nat → Nat → Int64) → Option (Int32 × (Nat → Nat → Int32) × (Nat → Nat → Int64))) (l1 : Int32) (l2 : Int32) (l3 : Int32) (l4 : Int32) (l5 : Int32) (l6 : Int32) (I : Nat → Nat → Int32) (J : Nat → Nat → Int64) : Option (Int32 × (Nat → Nat → Int32) × (Nat → Nat → Int64)) := if 6 ≤ l4 then (if ¬ (((zz_u I 52 6 0) 52 6) < 0 ∨ 20 ≤ ((zz_u I 52 6 0) 52 6).toNatClampNeg) then (some (l2, zw_X12_tell (zz_u I 52 6 0) J l3.toInt64, zx_X12_tell (zz_u I 52 6 0) J l3.toInt64)) else none) else ((zf_X12_withPerson N l1 ((1 : Int32) <<< (l4 &&& 31)) I J).bind fun r3 => if (zz_max (zv_J6_bitCount r3.1) ((zv_J6_bitCount l1) - (zv_J6_bitCount r3.1))) < l3 then (rec 26 l1 l4 (zz_max (zv_J6_bitCount r3.1) ((zv_J6_bitCount l1) - (zv_J6_bitCount r3.1))) (l4 + 1) 0 0 I J) else (rec 26 l1 l2 l3 (l4 + 1) 0 0 I J))
def zl_X12_ask (N : Nat) : Nat → Nat → Int32 → Int32 → Int32 → Int32 → Int32 → Int32 → (Nat → Nat → Int32) → (Nat → Nat → Int64) → Option (Int32 × (Nat → Nat → Int32) × (Nat → Nat → Int64))
  | 0 => fun _ _ _ _ _ _ _ _ _ => none
  | n + 1 => fun pc l1 l2 l3 l4 l5 l6 I J => if pc = 0 then zb_X12_ask_0 N (zl_X12_ask N n) l1 l2 l3 l4 l5 l6 I J else (if pc = 26 then zb_X12_ask_26 N (zl_X12_ask N n) l1 l2 l3 l4 l5 l6 I J else none)
def zf_X12_ask (N : Nat)  (I : Nat → Nat → Int32) (J : Nat → Nat → Int64) : Option (Int32 × (Nat → Nat → Int32) × (Nat → Nat → Int64)) := zl_X12_ask N N 0 0 0 0 0 0 0 I J
theorem zq_X12_ask (F : zz_F) (d N : Nat) : ∀ n : Nat, (∀ (l1 : Int32) (l2 : Int32) (l3 : Int32) (l4 : Int32) (l5 : Int32) (l6 : Int32) (I : Nat → Nat → Int32) (J : Nat → Nat → Int64) (r : Int32 × (Nat → Nat → Int32) × (Nat → Nat → Int64)), zl_X12_ask N n 0 l1 l2 l3 l4 l5 l6 I J = some r → zz_run (d+2) 299 0 [some (.ref 52), none, none, none, none, none, none] [] (zz_S F I J) (some (.int (r.1))) (zz_S F (r.2.1) (r.2.2))) ∧ (∀ (l1 : Int32) (l2 : Int32) (l3 : Int32) (l4 : Int32) (l5 : Int32) (l6 : Int32) (I : Nat → Nat → Int32) (J : Nat → Nat → Int64) (r : Int32 × (Nat → Nat → Int32) × (Nat → Nat → Int64)), zl_X12_ask N n 26 l1 l2 l3 l4 l5 l6 I J = some r → zz_run (d+2) 299 26 [some (.ref 52), some (.int (l1)), some (.int (l2)), some (.int (l3)), some (.int (l4)), none, none] [] (zz_S F I J) (some (.int (r.1))) (zz_S F (r.2.1) (r.2.2))) := by
  intro n
  induction n with
  | zero => exact ⟨fun _ _ _ _ _ _ _ _ _ h => zz_no h, fun _ _ _ _ _ _ _ _ _ h => zz_no h⟩
  | succ n ih =>
    obtain ⟨ih0, ih26⟩ := ih
    refine ⟨?_, ?_⟩
    · intro l1 l2 l3 l4 l5 l6 I J r hr
      replace hr : zb_X12_ask_0 N (zl_X12_ask N n) l1 l2 l3 l4 l5 l6 I J = some r := hr
      unfold zb_X12_ask_0 at hr
      refine zs_299_0 ?_
      repeat' first | refine And.intro rfl ?_ | refine And.intro (Or.inl rfl) ?_ | refine And.intro (Or.inr rfl) ?_ | refine And.intro (Nat.le_of_ble_eq_true rfl) ?_ | refine And.intro (And.intro rfl rfl) ?_ | exact rfl
      obtain ⟨r1, cr1, hr⟩ := Option.bind_eq_some_iff.mp hr
      refine Exists.intro _ (Exists.intro _ (And.intro (zr_X12_fitting F (zz_u I 52 7 0) J d N  r1 cr1) ?_))
      repeat' first | refine And.intro rfl ?_ | refine And.intro (Or.inl rfl) ?_ | refine And.intro (Or.inr rfl) ?_ | refine And.intro (Nat.le_of_ble_eq_true rfl) ?_ | refine And.intro (And.intro rfl rfl) ?_ | exact rfl
      refine And.intro (fun (h1 : ¬ r1.1 = 0) => ?_) (fun (h1 : ¬ (¬ r1.1 = 0)) => ?_)
      · rw [if_pos h1] at hr
        refine zs_299_17 ?_
        repeat' first | refine And.intro rfl ?_ | refine And.intro (Or.inl rfl) ?_ | refine And.intro (Or.inr rfl) ?_ | refine And.intro (Nat.le_of_ble_eq_true rfl) ?_ | refine And.intro (And.intro rfl rfl) ?_ | exact rfl
        exact zz_wk [true, true, true, true, true, false, false] rfl (ih26 _ _ _ _ _ _ _ _ _ hr)
      · rw [if_neg h1] at hr
        repeat' first | refine And.intro rfl ?_ | refine And.intro (Or.inl rfl) ?_ | refine And.intro (Or.inr rfl) ?_ | refine And.intro (Nat.le_of_ble_eq_true rfl) ?_ | refine And.intro (And.intro rfl rfl) ?_ | exact rfl
        cases hr
        repeat' first | refine And.intro rfl ?_ | refine And.intro (Or.inl rfl) ?_ | refine And.intro (Or.inr rfl) ?_ | refine And.intro (Nat.le_of_ble_eq_true rfl) ?_ | refine And.intro (And.intro rfl rfl) ?_ | exact rfl
    · intro l1 l2 l3 l4 l5 l6 I J r hr
      replace hr : zb_X12_ask_26 N (zl_X12_ask N n) l1 l2 l3 l4 l5 l6 I J = some r := hr
      unfold zb_X12_ask_26 at hr
      refine zs_299_26 ?_
      repeat' first | refine And.intro rfl ?_ | refine And.intro (Or.inl rfl) ?_ | refine And.intro (Or.inr rfl) ?_ | refine And.intro (Nat.le_of_ble_eq_true rfl) ?_ | refine And.intro (And.intro rfl rfl) ?_ | exact rfl
      refine And.intro (fun (h2 : 6 ≤ l4) => ?_) (fun (h2 : ¬ (6 ≤ l4)) => ?_)
      · rw [if_pos h2] at hr
        refine zs_299_82 ?_
        repeat' first | refine And.intro rfl ?_ | refine And.intro (Or.inl rfl) ?_ | refine And.intro (Or.inr rfl) ?_ | refine And.intro (Nat.le_of_ble_eq_true rfl) ?_ | refine And.intro (And.intro rfl rfl) ?_ | exact rfl
        have g2 : ¬ (((zz_u I 52 6 0) 52 6) < 0 ∨ 20 ≤ ((zz_u I 52 6 0) 52 6).toNatClampNeg) := zz_g hr
        replace hr := zz_gt hr
        refine Exists.intro _ (Exists.intro _ (And.intro (zr_X12_tell F (zz_u I 52 6 0) J (d+1) l3.toInt64 g2) ?_))
        repeat' first | refine And.intro rfl ?_ | refine And.intro (Or.inl rfl) ?_ | refine And.intro (Or.inr rfl) ?_ | refine And.intro (Nat.le_of_ble_eq_true rfl) ?_ | refine And.intro (And.intro rfl rfl) ?_ | exact rfl
        cases hr
        repeat' first | refine And.intro rfl ?_ | refine And.intro (Or.inl rfl) ?_ | refine And.intro (Or.inr rfl) ?_ | refine And.intro (Nat.le_of_ble_eq_true rfl) ?_ | refine And.intro (And.intro rfl rfl) ?_ | exact rfl
      · rw [if_neg h2] at hr
        repeat' first | refine And.intro rfl ?_ | refine And.intro (Or.inl rfl) ?_ | refine And.intro (Or.inr rfl) ?_ | refine And.intro (Nat.le_of_ble_eq_true rfl) ?_ | refine And.intro (And.intro rfl rfl) ?_ | exact rfl
        obtain ⟨r3, cr3, hr⟩ := Option.bind_eq_some_iff.mp hr
        refine Exists.intro _ (Exists.intro _ (And.intro (zr_X12_withPerson F I J d N l1 ((1 : Int32) <<< (l4 &&& 31)) r3 cr3) ?_))
        repeat' first | refine And.intro rfl ?_ | refine And.intro (Or.inl rfl) ?_ | refine And.intro (Or.inr rfl) ?_ | refine And.intro (Nat.le_of_ble_eq_true rfl) ?_ | refine And.intro (And.intro rfl rfl) ?_ | exact rfl
        refine Exists.intro _ (Exists.intro _ (And.intro (zr_J6_bitCount F I J (d+1) r3.1) ?_))
        repeat' first | refine And.intro rfl ?_ | refine And.intro (Or.inl rfl) ?_ | refine And.intro (Or.inr rfl) ?_ | refine And.intro (Nat.le_of_ble_eq_true rfl) ?_ | refine And.intro (And.intro rfl rfl) ?_ | exact rfl
        refine Exists.intro _ (Exists.intro _ (And.intro (zr_J6_bitCount F I J (d+1) l1) ?_))
        repeat' first | refine And.intro rfl ?_ | refine And.intro (Or.inl rfl) ?_ | refine And.intro (Or.inr rfl) ?_ | refine And.intro (Nat.le_of_ble_eq_true rfl) ?_ | refine And.intro (And.intro rfl rfl) ?_ | exact rfl
        refine Exists.intro _ (Exists.intro _ (And.intro (zr_max F I J (d+1) (zv_J6_bitCount r3.1) ((zv_J6_bitCount l1) - (zv_J6_bitCount r3.1))) ?_))
        repeat' first | refine And.intro rfl ?_ | refine And.intro (Or.inl rfl) ?_ | refine And.intro (Or.inr rfl) ?_ | refine And.intro (Nat.le_of_ble_eq_true rfl) ?_ | refine And.intro (And.intro rfl rfl) ?_ | exact rfl
        refine And.intro (fun (h3 : (zz_max (zv_J6_bitCount r3.1) ((zv_J6_bitCount l1) - (zv_J6_bitCount r3.1))) < l3) => ?_) (fun (h3 : ¬ ((zz_max (zv_J6_bitCount r3.1) ((zv_J6_bitCount l1) - (zv_J6_bitCount r3.1))) < l3)) => ?_)
        · rw [if_pos h3] at hr
          refine zs_299_70 ?_
          repeat' first | refine And.intro rfl ?_ | refine And.intro (Or.inl rfl) ?_ | refine And.intro (Or.inr rfl) ?_ | refine And.intro (Nat.le_of_ble_eq_true rfl) ?_ | refine And.intro (And.intro rfl rfl) ?_ | exact rfl
          refine zs_299_76 ?_
          repeat' first | refine And.intro rfl ?_ | refine And.intro (Or.inl rfl) ?_ | refine And.intro (Or.inr rfl) ?_ | refine And.intro (Nat.le_of_ble_eq_true rfl) ?_ | refine And.intro (And.intro rfl rfl) ?_ | exact rfl
          exact zz_wk [true, true, true, true, true, false, false] rfl (ih26 _ _ _ _ _ _ _ _ _ hr)
        · rw [if_neg h3] at hr
          repeat' first | refine And.intro rfl ?_ | refine And.intro (Or.inl rfl) ?_ | refine And.intro (Or.inr rfl) ?_ | refine And.intro (Nat.le_of_ble_eq_true rfl) ?_ | refine And.intro (And.intro rfl rfl) ?_ | exact rfl
          refine zs_299_76 ?_
          repeat' first | refine And.intro rfl ?_ | refine And.intro (Or.inl rfl) ?_ | refine And.intro (Or.inr rfl) ?_ | refine And.intro (Nat.le_of_ble_eq_true rfl) ?_ | refine And.intro (And.intro rfl rfl) ?_ | exact rfl
          exact zz_wk [true, true, true, true, true, false, false] rfl (ih26 _ _ _ _ _ _ _ _ _ hr)
theorem zr_X12_ask (F : zz_F) (I : Nat → Nat → Int32) (J : Nat → Nat → Int64) (d N : Nat)  (r : Int32 × (Nat → Nat → Int32) × (Nat → Nat → Int64)) (h : zf_X12_ask N  I J = some r) : zz_run (d+2) 299 0 [some (.ref 52), none, none, none, none, none, none] [] (zz_S F I J) (some (.int (r.1))) (zz_S F (r.2.1) (r.2.2)) := (zq_X12_ask F d N N).1 0 0 0 0 0 0 I J r h
def zb_X12_keep_0 (N : Nat) (rec : Nat → Int32 → (Nat → Nat → Int32) → (Nat → Nat → Int64) → Option (Int32 × (Nat → Nat → Int32) × (Nat → Nat → Int64))) (l1 : Int32) (I : Nat → Nat → Int32) (J : Nat → Nat → Int64) : Option (Int32 × (Nat → Nat → Int32) × (Nat → Nat → Int64)) := if ¬ (zv_X12_in l1 0 1) = 0 then (if ¬ (l1 < 0 ∨ 2 ≤ l1.toNatClampNeg) then ((zf_X12_lay__53_80 N (18 * l1) (zz_u (zz_u (zz_u I 52 7 0) 81 l1.toNatClampNeg (vp_nar .boolean 1)) 82 l1.toNatClampNeg (I 52 45)) J).bind fun r2 => some (1, r2.2.1, J)) else none) else (some (0, zz_u I 52 7 0, J))
def zl_X12_keep (N : Nat) : Nat → Nat → Int32 → (Nat → Nat → Int32) → (Nat → Nat → Int64) → Option (Int32 × (Nat → Nat → Int32) × (Nat → Nat → Int64))
  | 0 => fun _ _ _ _ => none
  | n + 1 => fun pc l1 I J => if pc = 0 then zb_X12_keep_0 N (zl_X12_keep N n) l1 I J else none
def zf_X12_keep (N : Nat) (l1 : Int32) (I : Nat → Nat → Int32) (J : Nat → Nat → Int64) : Option (Int32 × (Nat → Nat → Int32) × (Nat → Nat → Int64)) := zl_X12_keep N N 0 l1 I J
theorem zq_X12_keep (F : zz_F) (d N : Nat) : ∀ n : Nat, (∀ (l1 : Int32) (I : Nat → Nat → Int32) (J : Nat → Nat → Int64) (r : Int32 × (Nat → Nat → Int32) × (Nat → Nat → Int64)), zl_X12_keep N n 0 l1 I J = some r → zz_run (d+1) 302 0 [some (.ref 52), some (.int (l1))] [] (zz_S F I J) (some (.int (r.1))) (zz_S F (r.2.1) (J))) := by
  intro n
  induction n with
  | zero => exact fun _ _ _ _ h => zz_no h
  | succ n ih =>
    have ih0 := ih
    skip
    · intro l1 I J r hr
      replace hr : zb_X12_keep_0 N (zl_X12_keep N n) l1 I J = some r := hr
      unfold zb_X12_keep_0 at hr
      refine zs_302_0 ?_
      repeat' first | refine And.intro rfl ?_ | refine And.intro (Or.inl rfl) ?_ | refine And.intro (Or.inr rfl) ?_ | refine And.intro (Nat.le_of_ble_eq_true rfl) ?_ | refine And.intro (And.intro rfl rfl) ?_ | exact rfl
      refine Exists.intro _ (Exists.intro _ (And.intro (zr_X12_in F (zz_u I 52 7 0) J d l1 0 1) ?_))
      repeat' first | refine And.intro rfl ?_ | refine And.intro (Or.inl rfl) ?_ | refine And.intro (Or.inr rfl) ?_ | refine And.intro (Nat.le_of_ble_eq_true rfl) ?_ | refine And.intro (And.intro rfl rfl) ?_ | exact rfl
      refine And.intro (fun (h1 : ¬ (zv_X12_in l1 0 1) = 0) => ?_) (fun (h1 : ¬ (¬ (zv_X12_in l1 0 1) = 0)) => ?_)
      · rw [if_pos h1] at hr
        refine zs_302_16 ?_
        repeat' first | refine And.intro rfl ?_ | refine And.intro (Or.inl rfl) ?_ | refine And.intro (Or.inr rfl) ?_ | refine And.intro (Nat.le_of_ble_eq_true rfl) ?_ | refine And.intro (And.intro rfl rfl) ?_ | exact rfl
        have g1 : ¬ (l1 < 0 ∨ 2 ≤ l1.toNatClampNeg) := zz_g hr
        replace hr := zz_gt hr
        refine And.intro (g1) ?_
        repeat' first | refine And.intro rfl ?_ | refine And.intro (Or.inl rfl) ?_ | refine And.intro (Or.inr rfl) ?_ | refine And.intro (Nat.le_of_ble_eq_true rfl) ?_ | refine And.intro (And.intro rfl rfl) ?_ | exact rfl
        refine And.intro (g1) ?_
        repeat' first | refine And.intro rfl ?_ | refine And.intro (Or.inl rfl) ?_ | refine And.intro (Or.inr rfl) ?_ | refine And.intro (Nat.le_of_ble_eq_true rfl) ?_ | refine And.intro (And.intro rfl rfl) ?_ | exact rfl
        obtain ⟨r2, cr2, hr⟩ := Option.bind_eq_some_iff.mp hr
        refine Exists.intro _ (Exists.intro _ (And.intro (zr_X12_lay__53_80 F (zz_u (zz_u (zz_u I 52 7 0) 81 l1.toNatClampNeg (vp_nar .boolean 1)) 82 l1.toNatClampNeg (I 52 45)) J d N (18 * l1) r2 cr2) ?_))
        repeat' first | refine And.intro rfl ?_ | refine And.intro (Or.inl rfl) ?_ | refine And.intro (Or.inr rfl) ?_ | refine And.intro (Nat.le_of_ble_eq_true rfl) ?_ | refine And.intro (And.intro rfl rfl) ?_ | exact rfl
        cases hr
        repeat' first | refine And.intro rfl ?_ | refine And.intro (Or.inl rfl) ?_ | refine And.intro (Or.inr rfl) ?_ | refine And.intro (Nat.le_of_ble_eq_true rfl) ?_ | refine And.intro (And.intro rfl rfl) ?_ | exact rfl
      · rw [if_neg h1] at hr
        repeat' first | refine And.intro rfl ?_ | refine And.intro (Or.inl rfl) ?_ | refine And.intro (Or.inr rfl) ?_ | refine And.intro (Nat.le_of_ble_eq_true rfl) ?_ | refine And.intro (And.intro rfl rfl) ?_ | exact rfl
        cases hr
        repeat' first | refine And.intro rfl ?_ | refine And.intro (Or.inl rfl) ?_ | refine And.intro (Or.inr rfl) ?_ | refine And.intro (Nat.le_of_ble_eq_true rfl) ?_ | refine And.intro (And.intro rfl rfl) ?_ | exact rfl
theorem zr_X12_keep (F : zz_F) (I : Nat → Nat → Int32) (J : Nat → Nat → Int64) (d N : Nat) (l1 : Int32) (r : Int32 × (Nat → Nat → Int32) × (Nat → Nat → Int64)) (h : zf_X12_keep N l1 I J = some r) : zz_run (d+1) 302 0 [some (.ref 52), some (.int (l1))] [] (zz_S F I J) (some (.int (r.1))) (zz_S F (r.2.1) (J)) := (zq_X12_keep F d N N) l1 I J r h
def zb_X12_again_0 (N : Nat) (rec : Nat → Int32 → Int32 → (Nat → Nat → Int32) → (Nat → Nat → Int64) → Option (Int32 × (Nat → Nat → Int32) × (Nat → Nat → Int64))) (l1 : Int32) (l2 : Int32) (I : Nat → Nat → Int32) (J : Nat → Nat → Int64) : Option (Int32 × (Nat → Nat → Int32) × (Nat → Nat → Int64)) := if (zv_X12_in l1 0 1) = 0 then (some (0, zz_u I 52 7 0, J)) else (if ¬ (l1 < 0 ∨ 2 ≤ l1.toNatClampNeg) then (if (I 81 l1.toNatClampNeg) = 0 then (some (0, zz_u I 52 7 0, J)) else (if (I 82 l1.toNatClampNeg) = (I 52 45) then (rec 40 l1 0 (zz_u I 52 7 0) J) else (some (0, zz_u I 52 7 0, J)))) else none)
def zb_X12_again_40 (N : Nat) (rec : Nat → Int32 → Int32 → (Nat → Nat → Int32) → (Nat → Nat → Int64) → Option (Int32 × (Nat → Nat → Int32) × (Nat → Nat → Int64))) (l1 : Int32) (l2 : Int32) (I : Nat → Nat → Int32) (J : Nat → Nat → Int64) : Option (Int32 × (Nat → Nat → Int32) × (Nat → Nat → Int64)) := if 18 ≤ l2 then (some (1, zz_u I 52 20 0, J)) else (if ¬ (((18 * l1) + l2) < 0 ∨ 36 ≤ ((18 * l1) + l2).toNatClampNeg) then (if ¬ (l2 < 0 ∨ 18 ≤ l2.toNatClampNeg) then (rec 40 l1 (l2 + 1) (zz_u I 53 l2.toNatClampNeg (I 80 (((18 * l1) + l2).toNatClampNeg))) J) else none) else none)
def zl_X12_again (N : Nat) : Nat → Nat → Int32 → Int32 → (Nat → Nat → Int32) → (Nat → Nat → Int64) → Option (Int32 × (Nat → Nat → Int32) × (Nat → Nat → Int64))
  | 0 => fun _ _ _ _ _ => none
  | n + 1 => fun pc l1 l2 I J => if pc = 0 then zb_X12_again_0 N (zl_X12_again N n) l1 l2 I J else (if pc = 40 then zb_X12_again_40 N (zl_X12_again N n) l1 l2 I J else none)
def zf_X12_again (N : Nat) (l1 : Int32) (I : Nat → Nat → Int32) (J : Nat → Nat → Int64) : Option (Int32 × (Nat → Nat → Int32) × (Nat → Nat → Int64)) := zl_X12_again N N 0 l1 0 I J
theorem zq_X12_again (F : zz_F) (d N : Nat) : ∀ n : Nat, (∀ (l1 : Int32) (l2 : Int32) (I : Nat → Nat → Int32) (J : Nat → Nat → Int64) (r : Int32 × (Nat → Nat → Int32) × (Nat → Nat → Int64)), zl_X12_again N n 0 l1 l2 I J = some r → zz_run (d+1) 303 0 [some (.ref 52), some (.int (l1)), none] [] (zz_S F I J) (some (.int (r.1))) (zz_S F (r.2.1) (J))) ∧ (∀ (l1 : Int32) (l2 : Int32) (I : Nat → Nat → Int32) (J : Nat → Nat → Int64) (r : Int32 × (Nat → Nat → Int32) × (Nat → Nat → Int64)), zl_X12_again N n 40 l1 l2 I J = some r → zz_run (d+1) 303 40 [some (.ref 52), some (.int (l1)), some (.int (l2))] [] (zz_S F I J) (some (.int (r.1))) (zz_S F (r.2.1) (J))) := by
  intro n
  induction n with
  | zero => exact ⟨fun _ _ _ _ _ h => zz_no h, fun _ _ _ _ _ h => zz_no h⟩
  | succ n ih =>
    obtain ⟨ih0, ih40⟩ := ih
    refine ⟨?_, ?_⟩
    · intro l1 l2 I J r hr
      replace hr : zb_X12_again_0 N (zl_X12_again N n) l1 l2 I J = some r := hr
      unfold zb_X12_again_0 at hr
      refine zs_303_0 ?_
      repeat' first | refine And.intro rfl ?_ | refine And.intro (Or.inl rfl) ?_ | refine And.intro (Or.inr rfl) ?_ | refine And.intro (Nat.le_of_ble_eq_true rfl) ?_ | refine And.intro (And.intro rfl rfl) ?_ | exact rfl
      refine Exists.intro _ (Exists.intro _ (And.intro (zr_X12_in F (zz_u I 52 7 0) J d l1 0 1) ?_))
      repeat' first | refine And.intro rfl ?_ | refine And.intro (Or.inl rfl) ?_ | refine And.intro (Or.inr rfl) ?_ | refine And.intro (Nat.le_of_ble_eq_true rfl) ?_ | refine And.intro (And.intro rfl rfl) ?_ | exact rfl
      refine And.intro (fun (h1 : (zv_X12_in l1 0 1) = 0) => ?_) (fun (h1 : ¬ ((zv_X12_in l1 0 1) = 0)) => ?_)
      · rw [if_pos h1] at hr
        refine zs_303_36 ?_
        repeat' first | refine And.intro rfl ?_ | refine And.intro (Or.inl rfl) ?_ | refine And.intro (Or.inr rfl) ?_ | refine And.intro (Nat.le_of_ble_eq_true rfl) ?_ | refine And.intro (And.intro rfl rfl) ?_ | exact rfl
        cases hr
        repeat' first | refine And.intro rfl ?_ | refine And.intro (Or.inl rfl) ?_ | refine And.intro (Or.inr rfl) ?_ | refine And.intro (Nat.le_of_ble_eq_true rfl) ?_ | refine And.intro (And.intro rfl rfl) ?_ | exact rfl
      · rw [if_neg h1] at hr
        repeat' first | refine And.intro rfl ?_ | refine And.intro (Or.inl rfl) ?_ | refine And.intro (Or.inr rfl) ?_ | refine And.intro (Nat.le_of_ble_eq_true rfl) ?_ | refine And.intro (And.intro rfl rfl) ?_ | exact rfl
        have g1 : ¬ (l1 < 0 ∨ 2 ≤ l1.toNatClampNeg) := zz_g hr
        replace hr := zz_gt hr
        refine And.intro (g1) ?_
        repeat' first | refine And.intro rfl ?_ | refine And.intro (Or.inl rfl) ?_ | refine And.intro (Or.inr rfl) ?_ | refine And.intro (Nat.le_of_ble_eq_true rfl) ?_ | refine And.intro (And.intro rfl rfl) ?_ | exact rfl
        refine And.intro (fun (h2 : (I 81 l1.toNatClampNeg) = 0) => ?_) (fun (h2 : ¬ ((I 81 l1.toNatClampNeg) = 0)) => ?_)
        · rw [if_pos h2] at hr
          refine zs_303_36 ?_
          repeat' first | refine And.intro rfl ?_ | refine And.intro (Or.inl rfl) ?_ | refine And.intro (Or.inr rfl) ?_ | refine And.intro (Nat.le_of_ble_eq_true rfl) ?_ | refine And.intro (And.intro rfl rfl) ?_ | exact rfl
          cases hr
          repeat' first | refine And.intro rfl ?_ | refine And.intro (Or.inl rfl) ?_ | refine And.intro (Or.inr rfl) ?_ | refine And.intro (Nat.le_of_ble_eq_true rfl) ?_ | refine And.intro (And.intro rfl rfl) ?_ | exact rfl
        · rw [if_neg h2] at hr
          repeat' first | refine And.intro rfl ?_ | refine And.intro (Or.inl rfl) ?_ | refine And.intro (Or.inr rfl) ?_ | refine And.intro (Nat.le_of_ble_eq_true rfl) ?_ | refine And.intro (And.intro rfl rfl) ?_ | exact rfl
          refine And.intro (g1) ?_
          repeat' first | refine And.intro rfl ?_ | refine And.intro (Or.inl rfl) ?_ | refine And.intro (Or.inr rfl) ?_ | refine And.intro (Nat.le_of_ble_eq_true rfl) ?_ | refine And.intro (And.intro rfl rfl) ?_ | exact rfl
          refine And.intro (fun (h3 : (I 82 l1.toNatClampNeg) = (I 52 45)) => ?_) (fun (h3 : ¬ ((I 82 l1.toNatClampNeg) = (I 52 45))) => ?_)
          · rw [if_pos h3] at hr
            refine zs_303_38 ?_
            repeat' first | refine And.intro rfl ?_ | refine And.intro (Or.inl rfl) ?_ | refine And.intro (Or.inr rfl) ?_ | refine And.intro (Nat.le_of_ble_eq_true rfl) ?_ | refine And.intro (And.intro rfl rfl) ?_ | exact rfl
            exact zz_wk [true, true, true] rfl (ih40 _ _ _ _ _ hr)
          · rw [if_neg h3] at hr
            repeat' first | refine And.intro rfl ?_ | refine And.intro (Or.inl rfl) ?_ | refine And.intro (Or.inr rfl) ?_ | refine And.intro (Nat.le_of_ble_eq_true rfl) ?_ | refine And.intro (And.intro rfl rfl) ?_ | exact rfl
            refine zs_303_36 ?_
            repeat' first | refine And.intro rfl ?_ | refine And.intro (Or.inl rfl) ?_ | refine And.intro (Or.inr rfl) ?_ | refine And.intro (Nat.le_of_ble_eq_true rfl) ?_ | refine And.intro (And.intro rfl rfl) ?_ | exact rfl
            cases hr
            repeat' first | refine And.intro rfl ?_ | refine And.intro (Or.inl rfl) ?_ | refine And.intro (Or.inr rfl) ?_ | refine And.intro (Nat.le_of_ble_eq_true rfl) ?_ | refine And.intro (And.intro rfl rfl) ?_ | exact rfl
    · intro l1 l2 I J r hr
      replace hr : zb_X12_again_40 N (zl_X12_again N n) l1 l2 I J = some r := hr
      unfold zb_X12_again_40 at hr
      refine zs_303_40 ?_
      repeat' first | refine And.intro rfl ?_ | refine And.intro (Or.inl rfl) ?_ | refine And.intro (Or.inr rfl) ?_ | refine And.intro (Nat.le_of_ble_eq_true rfl) ?_ | refine And.intro (And.intro rfl rfl) ?_ | exact rfl
      refine And.intro (fun (h4 : 18 ≤ l2) => ?_) (fun (h4 : ¬ (18 ≤ l2)) => ?_)
      · rw [if_pos h4] at hr
        refine zs_303_69 ?_
        repeat' first | refine And.intro rfl ?_ | refine And.intro (Or.inl rfl) ?_ | refine And.intro (Or.inr rfl) ?_ | refine And.intro (Nat.le_of_ble_eq_true rfl) ?_ | refine And.intro (And.intro rfl rfl) ?_ | exact rfl
        cases hr
        repeat' first | refine And.intro rfl ?_ | refine And.intro (Or.inl rfl) ?_ | refine And.intro (Or.inr rfl) ?_ | refine And.intro (Nat.le_of_ble_eq_true rfl) ?_ | refine And.intro (And.intro rfl rfl) ?_ | exact rfl
      · rw [if_neg h4] at hr
        repeat' first | refine And.intro rfl ?_ | refine And.intro (Or.inl rfl) ?_ | refine And.intro (Or.inr rfl) ?_ | refine And.intro (Nat.le_of_ble_eq_true rfl) ?_ | refine And.intro (And.intro rfl rfl) ?_ | exact rfl
        have g2 : ¬ (((18 * l1) + l2) < 0 ∨ 36 ≤ ((18 * l1) + l2).toNatClampNeg) := zz_g hr
        replace hr := zz_gt hr
        refine And.intro (g2) ?_
        repeat' first | refine And.intro rfl ?_ | refine And.intro (Or.inl rfl) ?_ | refine And.intro (Or.inr rfl) ?_ | refine And.intro (Nat.le_of_ble_eq_true rfl) ?_ | refine And.intro (And.intro rfl rfl) ?_ | exact rfl
        have g3 : ¬ (l2 < 0 ∨ 18 ≤ l2.toNatClampNeg) := zz_g hr
        replace hr := zz_gt hr
        refine And.intro (g3) ?_
        repeat' first | refine And.intro rfl ?_ | refine And.intro (Or.inl rfl) ?_ | refine And.intro (Or.inr rfl) ?_ | refine And.intro (Nat.le_of_ble_eq_true rfl) ?_ | refine And.intro (And.intro rfl rfl) ?_ | exact rfl
        exact zz_wk [true, true, true] rfl (ih40 _ _ _ _ _ hr)
theorem zr_X12_again (F : zz_F) (I : Nat → Nat → Int32) (J : Nat → Nat → Int64) (d N : Nat) (l1 : Int32) (r : Int32 × (Nat → Nat → Int32) × (Nat → Nat → Int64)) (h : zf_X12_again N l1 I J = some r) : zz_run (d+1) 303 0 [some (.ref 52), some (.int (l1)), none] [] (zz_S F I J) (some (.int (r.1))) (zz_S F (r.2.1) (J)) := (zq_X12_again F d N N).1 l1 0 I J r h
def zb_X12_count_0 (N : Nat) (rec : Nat → Int32 → (Nat → Nat → Int32) → (Nat → Nat → Int64) → Option (Int32 × (Nat → Nat → Int32) × (Nat → Nat → Int64))) (l1 : Int32) (I : Nat → Nat → Int32) (J : Nat → Nat → Int64) : Option (Int32 × (Nat → Nat → Int32) × (Nat → Nat → Int64)) := if l1 = 0 then (some (I 52 1, zz_u I 52 7 0, J)) else (if l1 = 1 then (some (I 53 12, zz_u I 52 7 0, J)) else (if l1 = 2 then (some (I 53 13, zz_u I 52 7 0, J)) else (if l1 = 3 then (rec 85 l1 (zz_u I 52 7 0) J) else (if l1 = 4 then (rec 85 l1 (zz_u I 52 7 0) J) else (if l1 = 5 then (rec 85 l1 (zz_u I 52 7 0) J) else (if l1 = 6 then (some ((I 53 16) + (I 53 17), zz_u I 52 7 0, J)) else (if l1 = 7 then (some (I 52 43, zz_u I 52 7 0, J)) else (if l1 = 8 then (some (I 52 20, zz_u I 52 7 0, J)) else (if l1 = 9 then (some (I 52 6, zz_u I 52 7 0, J)) else (if l1 = 10 then (some (I 52 4, zz_u I 52 7 0, J)) else (some ((-100), zz_u I 52 7 0, J))))))))))))
def zb_X12_count_85 (N : Nat) (rec : Nat → Int32 → (Nat → Nat → Int32) → (Nat → Nat → Int64) → Option (Int32 × (Nat → Nat → Int32) × (Nat → Nat → Int64))) (l1 : Int32) (I : Nat → Nat → Int32) (J : Nat → Nat → Int64) : Option (Int32 × (Nat → Nat → Int32) × (Nat → Nat → Int64)) := (zf_X12_whereBits N (l1 - 3) I J).bind fun r1 => some (r1.1, I, J)
def zl_X12_count (N : Nat) : Nat → Nat → Int32 → (Nat → Nat → Int32) → (Nat → Nat → Int64) → Option (Int32 × (Nat → Nat → Int32) × (Nat → Nat → Int64))
  | 0 => fun _ _ _ _ => none
  | n + 1 => fun pc l1 I J => if pc = 0 then zb_X12_count_0 N (zl_X12_count N n) l1 I J else (if pc = 85 then zb_X12_count_85 N (zl_X12_count N n) l1 I J else none)
def zf_X12_count (N : Nat) (l1 : Int32) (I : Nat → Nat → Int32) (J : Nat → Nat → Int64) : Option (Int32 × (Nat → Nat → Int32) × (Nat → Nat → Int64)) := zl_X12_count N N 0 l1 I J
theorem zq_X12_count (F : zz_F) (d N : Nat) : ∀ n : Nat, (∀ (l1 : Int32) (I : Nat → Nat → Int32) (J : Nat → Nat → Int64) (r : Int32 × (Nat → Nat → Int32) × (Nat → Nat → Int64)), zl_X12_count N n 0 l1 I J = some r → zz_run (d+1) 304 0 [some (.ref 52), some (.int (l1))] [] (zz_S F I J) (some (.int (r.1))) (zz_S F (r.2.1) (J))) ∧ (∀ (l1 : Int32) (I : Nat → Nat → Int32) (J : Nat → Nat → Int64) (r : Int32 × (Nat → Nat → Int32) × (Nat → Nat → Int64)), zl_X12_count N n 85 l1 I J = some r → zz_run (d+1) 304 85 [some (.ref 52), some (.int (l1))] [] (zz_S F I J) (some (.int (r.1))) (zz_S F (r.2.1) (J))) := by
  intro n
  induction n with
  | zero => exact ⟨fun _ _ _ _ h => zz_no h, fun _ _ _ _ h => zz_no h⟩
  | succ n ih =>
    obtain ⟨ih0, ih85⟩ := ih
    refine ⟨?_, ?_⟩
    · intro l1 I J r hr
      replace hr : zb_X12_count_0 N (zl_X12_count N n) l1 I J = some r := hr
      unfold zb_X12_count_0 at hr
      refine zs_304_0 ?_
      repeat' first | refine And.intro rfl ?_ | refine And.intro (Or.inl rfl) ?_ | refine And.intro (Or.inr rfl) ?_ | refine And.intro (Nat.le_of_ble_eq_true rfl) ?_ | refine And.intro (And.intro rfl rfl) ?_ | exact rfl
      by_cases s1_0 : l1 = 0
      · rw [if_pos s1_0] at hr
        refine And.intro (fun (q : l1.toInt < 0 ∨ 10 < l1.toInt) => absurd q (by rw [s1_0]; decide)) (fun _ => Exists.intro 58 (And.intro (show (#[58, 63, 71, 79, 79, 79, 87, 103, 108, 113, 118] : Array Int)[(l1.toInt - 0).toNat]? = some 58 from by rw [s1_0]; rfl) ?_))
        refine zs_304_64 ?_
        repeat' first | refine And.intro rfl ?_ | refine And.intro (Or.inl rfl) ?_ | refine And.intro (Or.inr rfl) ?_ | refine And.intro (Nat.le_of_ble_eq_true rfl) ?_ | refine And.intro (And.intro rfl rfl) ?_ | exact rfl
        cases hr
        repeat' first | refine And.intro rfl ?_ | refine And.intro (Or.inl rfl) ?_ | refine And.intro (Or.inr rfl) ?_ | refine And.intro (Nat.le_of_ble_eq_true rfl) ?_ | refine And.intro (And.intro rfl rfl) ?_ | exact rfl
      · rw [if_neg s1_0] at hr
        by_cases s1_1 : l1 = 1
        · rw [if_pos s1_1] at hr
          refine And.intro (fun (q : l1.toInt < 0 ∨ 10 < l1.toInt) => absurd q (by rw [s1_1]; decide)) (fun _ => Exists.intro 63 (And.intro (show (#[58, 63, 71, 79, 79, 79, 87, 103, 108, 113, 118] : Array Int)[(l1.toInt - 0).toNat]? = some 63 from by rw [s1_1]; rfl) ?_))
          refine zs_304_69 ?_
          repeat' first | refine And.intro rfl ?_ | refine And.intro (Or.inl rfl) ?_ | refine And.intro (Or.inr rfl) ?_ | refine And.intro (Nat.le_of_ble_eq_true rfl) ?_ | refine And.intro (And.intro rfl rfl) ?_ | exact rfl
          refine And.intro (zz_vk (k := 12) rfl rfl) ?_
          repeat' first | refine And.intro rfl ?_ | refine And.intro (Or.inl rfl) ?_ | refine And.intro (Or.inr rfl) ?_ | refine And.intro (Nat.le_of_ble_eq_true rfl) ?_ | refine And.intro (And.intro rfl rfl) ?_ | exact rfl
          cases hr
          repeat' first | refine And.intro rfl ?_ | refine And.intro (Or.inl rfl) ?_ | refine And.intro (Or.inr rfl) ?_ | refine And.intro (Nat.le_of_ble_eq_true rfl) ?_ | refine And.intro (And.intro rfl rfl) ?_ | exact rfl
        · rw [if_neg s1_1] at hr
          by_cases s1_2 : l1 = 2
          · rw [if_pos s1_2] at hr
            refine And.intro (fun (q : l1.toInt < 0 ∨ 10 < l1.toInt) => absurd q (by rw [s1_2]; decide)) (fun _ => Exists.intro 71 (And.intro (show (#[58, 63, 71, 79, 79, 79, 87, 103, 108, 113, 118] : Array Int)[(l1.toInt - 0).toNat]? = some 71 from by rw [s1_2]; rfl) ?_))
            refine zs_304_77 ?_
            repeat' first | refine And.intro rfl ?_ | refine And.intro (Or.inl rfl) ?_ | refine And.intro (Or.inr rfl) ?_ | refine And.intro (Nat.le_of_ble_eq_true rfl) ?_ | refine And.intro (And.intro rfl rfl) ?_ | exact rfl
            refine And.intro (zz_vk (k := 13) rfl rfl) ?_
            repeat' first | refine And.intro rfl ?_ | refine And.intro (Or.inl rfl) ?_ | refine And.intro (Or.inr rfl) ?_ | refine And.intro (Nat.le_of_ble_eq_true rfl) ?_ | refine And.intro (And.intro rfl rfl) ?_ | exact rfl
            cases hr
            repeat' first | refine And.intro rfl ?_ | refine And.intro (Or.inl rfl) ?_ | refine And.intro (Or.inr rfl) ?_ | refine And.intro (Nat.le_of_ble_eq_true rfl) ?_ | refine And.intro (And.intro rfl rfl) ?_ | exact rfl
          · rw [if_neg s1_2] at hr
            by_cases s1_3 : l1 = 3
            · rw [if_pos s1_3] at hr
              refine And.intro (fun (q : l1.toInt < 0 ∨ 10 < l1.toInt) => absurd q (by rw [s1_3]; decide)) (fun _ => Exists.intro 79 (And.intro (show (#[58, 63, 71, 79, 79, 79, 87, 103, 108, 113, 118] : Array Int)[(l1.toInt - 0).toNat]? = some 79 from by rw [s1_3]; rfl) ?_))
              exact zz_wk [true, true] rfl (ih85 _ _ _ _ hr)
            · rw [if_neg s1_3] at hr
              by_cases s1_4 : l1 = 4
              · rw [if_pos s1_4] at hr
                refine And.intro (fun (q : l1.toInt < 0 ∨ 10 < l1.toInt) => absurd q (by rw [s1_4]; decide)) (fun _ => Exists.intro 79 (And.intro (show (#[58, 63, 71, 79, 79, 79, 87, 103, 108, 113, 118] : Array Int)[(l1.toInt - 0).toNat]? = some 79 from by rw [s1_4]; rfl) ?_))
                exact zz_wk [true, true] rfl (ih85 _ _ _ _ hr)
              · rw [if_neg s1_4] at hr
                by_cases s1_5 : l1 = 5
                · rw [if_pos s1_5] at hr
                  refine And.intro (fun (q : l1.toInt < 0 ∨ 10 < l1.toInt) => absurd q (by rw [s1_5]; decide)) (fun _ => Exists.intro 79 (And.intro (show (#[58, 63, 71, 79, 79, 79, 87, 103, 108, 113, 118] : Array Int)[(l1.toInt - 0).toNat]? = some 79 from by rw [s1_5]; rfl) ?_))
                  exact zz_wk [true, true] rfl (ih85 _ _ _ _ hr)
                · rw [if_neg s1_5] at hr
                  by_cases s1_6 : l1 = 6
                  · rw [if_pos s1_6] at hr
                    refine And.intro (fun (q : l1.toInt < 0 ∨ 10 < l1.toInt) => absurd q (by rw [s1_6]; decide)) (fun _ => Exists.intro 87 (And.intro (show (#[58, 63, 71, 79, 79, 79, 87, 103, 108, 113, 118] : Array Int)[(l1.toInt - 0).toNat]? = some 87 from by rw [s1_6]; rfl) ?_))
                    refine zs_304_93 ?_
                    repeat' first | refine And.intro rfl ?_ | refine And.intro (Or.inl rfl) ?_ | refine And.intro (Or.inr rfl) ?_ | refine And.intro (Nat.le_of_ble_eq_true rfl) ?_ | refine And.intro (And.intro rfl rfl) ?_ | exact rfl
                    refine And.intro (zz_vk (k := 16) rfl rfl) ?_
                    repeat' first | refine And.intro rfl ?_ | refine And.intro (Or.inl rfl) ?_ | refine And.intro (Or.inr rfl) ?_ | refine And.intro (Nat.le_of_ble_eq_true rfl) ?_ | refine And.intro (And.intro rfl rfl) ?_ | exact rfl
                    refine And.intro (zz_vk (k := 17) rfl rfl) ?_
                    repeat' first | refine And.intro rfl ?_ | refine And.intro (Or.inl rfl) ?_ | refine And.intro (Or.inr rfl) ?_ | refine And.intro (Nat.le_of_ble_eq_true rfl) ?_ | refine And.intro (And.intro rfl rfl) ?_ | exact rfl
                    cases hr
                    repeat' first | refine And.intro rfl ?_ | refine And.intro (Or.inl rfl) ?_ | refine And.intro (Or.inr rfl) ?_ | refine And.intro (Nat.le_of_ble_eq_true rfl) ?_ | refine And.intro (And.intro rfl rfl) ?_ | exact rfl
                  · rw [if_neg s1_6] at hr
                    by_cases s1_7 : l1 = 7
                    · rw [if_pos s1_7] at hr
                      refine And.intro (fun (q : l1.toInt < 0 ∨ 10 < l1.toInt) => absurd q (by rw [s1_7]; decide)) (fun _ => Exists.intro 103 (And.intro (show (#[58, 63, 71, 79, 79, 79, 87, 103, 108, 113, 118] : Array Int)[(l1.toInt - 0).toNat]? = some 103 from by rw [s1_7]; rfl) ?_))
                      refine zs_304_109 ?_
                      repeat' first | refine And.intro rfl ?_ | refine And.intro (Or.inl rfl) ?_ | refine And.intro (Or.inr rfl) ?_ | refine And.intro (Nat.le_of_ble_eq_true rfl) ?_ | refine And.intro (And.intro rfl rfl) ?_ | exact rfl
                      cases hr
                      repeat' first | refine And.intro rfl ?_ | refine And.intro (Or.inl rfl) ?_ | refine And.intro (Or.inr rfl) ?_ | refine And.intro (Nat.le_of_ble_eq_true rfl) ?_ | refine And.intro (And.intro rfl rfl) ?_ | exact rfl
                    · rw [if_neg s1_7] at hr
                      by_cases s1_8 : l1 = 8
                      · rw [if_pos s1_8] at hr
                        refine And.intro (fun (q : l1.toInt < 0 ∨ 10 < l1.toInt) => absurd q (by rw [s1_8]; decide)) (fun _ => Exists.intro 108 (And.intro (show (#[58, 63, 71, 79, 79, 79, 87, 103, 108, 113, 118] : Array Int)[(l1.toInt - 0).toNat]? = some 108 from by rw [s1_8]; rfl) ?_))
                        refine zs_304_114 ?_
                        repeat' first | refine And.intro rfl ?_ | refine And.intro (Or.inl rfl) ?_ | refine And.intro (Or.inr rfl) ?_ | refine And.intro (Nat.le_of_ble_eq_true rfl) ?_ | refine And.intro (And.intro rfl rfl) ?_ | exact rfl
                        cases hr
                        repeat' first | refine And.intro rfl ?_ | refine And.intro (Or.inl rfl) ?_ | refine And.intro (Or.inr rfl) ?_ | refine And.intro (Nat.le_of_ble_eq_true rfl) ?_ | refine And.intro (And.intro rfl rfl) ?_ | exact rfl
                      · rw [if_neg s1_8] at hr
                        by_cases s1_9 : l1 = 9
                        · rw [if_pos s1_9] at hr
                          refine And.intro (fun (q : l1.toInt < 0 ∨ 10 < l1.toInt) => absurd q (by rw [s1_9]; decide)) (fun _ => Exists.intro 113 (And.intro (show (#[58, 63, 71, 79, 79, 79, 87, 103, 108, 113, 118] : Array Int)[(l1.toInt - 0).toNat]? = some 113 from by rw [s1_9]; rfl) ?_))
                          refine zs_304_119 ?_
                          repeat' first | refine And.intro rfl ?_ | refine And.intro (Or.inl rfl) ?_ | refine And.intro (Or.inr rfl) ?_ | refine And.intro (Nat.le_of_ble_eq_true rfl) ?_ | refine And.intro (And.intro rfl rfl) ?_ | exact rfl
                          cases hr
                          repeat' first | refine And.intro rfl ?_ | refine And.intro (Or.inl rfl) ?_ | refine And.intro (Or.inr rfl) ?_ | refine And.intro (Nat.le_of_ble_eq_true rfl) ?_ | refine And.intro (And.intro rfl rfl) ?_ | exact rfl
                        · rw [if_neg s1_9] at hr
                          by_cases s1_10 : l1 = 10
                          · rw [if_pos s1_10] at hr
                            refine And.intro (fun (q : l1.toInt < 0 ∨ 10 < l1.toInt) => absurd q (by rw [s1_10]; decide)) (fun _ => Exists.intro 118 (And.intro (show (#[58, 63, 71, 79, 79, 79, 87, 103, 108, 113, 118] : Array Int)[(l1.toInt - 0).toNat]? = some 118 from by rw [s1_10]; rfl) ?_))
                            refine zs_304_124 ?_
                            repeat' first | refine And.intro rfl ?_ | refine And.intro (Or.inl rfl) ?_ | refine And.intro (Or.inr rfl) ?_ | refine And.intro (Nat.le_of_ble_eq_true rfl) ?_ | refine And.intro (And.intro rfl rfl) ?_ | exact rfl
                            cases hr
                            repeat' first | refine And.intro rfl ?_ | refine And.intro (Or.inl rfl) ?_ | refine And.intro (Or.inr rfl) ?_ | refine And.intro (Nat.le_of_ble_eq_true rfl) ?_ | refine And.intro (And.intro rfl rfl) ?_ | exact rfl
                          · rw [if_neg s1_10] at hr
                            have es1_0 : ¬ l1.toInt = 0 := fun q => s1_0 (zz_toI q rfl)
                            have es1_1 : ¬ l1.toInt = 1 := fun q => s1_1 (zz_toI q rfl)
                            have es1_2 : ¬ l1.toInt = 2 := fun q => s1_2 (zz_toI q rfl)
                            have es1_3 : ¬ l1.toInt = 3 := fun q => s1_3 (zz_toI q rfl)
                            have es1_4 : ¬ l1.toInt = 4 := fun q => s1_4 (zz_toI q rfl)
                            have es1_5 : ¬ l1.toInt = 5 := fun q => s1_5 (zz_toI q rfl)
                            have es1_6 : ¬ l1.toInt = 6 := fun q => s1_6 (zz_toI q rfl)
                            have es1_7 : ¬ l1.toInt = 7 := fun q => s1_7 (zz_toI q rfl)
                            have es1_8 : ¬ l1.toInt = 8 := fun q => s1_8 (zz_toI q rfl)
                            have es1_9 : ¬ l1.toInt = 9 := fun q => s1_9 (zz_toI q rfl)
                            have es1_10 : ¬ l1.toInt = 10 := fun q => s1_10 (zz_toI q rfl)
                            refine And.intro (fun _ => ?_) (fun (q : ¬ (l1.toInt < 0 ∨ 10 < l1.toInt)) => absurd (by omega) q)
                            refine zs_304_129 ?_
                            repeat' first | refine And.intro rfl ?_ | refine And.intro (Or.inl rfl) ?_ | refine And.intro (Or.inr rfl) ?_ | refine And.intro (Nat.le_of_ble_eq_true rfl) ?_ | refine And.intro (And.intro rfl rfl) ?_ | exact rfl
                            cases hr
                            repeat' first | refine And.intro rfl ?_ | refine And.intro (Or.inl rfl) ?_ | refine And.intro (Or.inr rfl) ?_ | refine And.intro (Nat.le_of_ble_eq_true rfl) ?_ | refine And.intro (And.intro rfl rfl) ?_ | exact rfl
    · intro l1 I J r hr
      replace hr : zb_X12_count_85 N (zl_X12_count N n) l1 I J = some r := hr
      unfold zb_X12_count_85 at hr
      refine zs_304_85 ?_
      repeat' first | refine And.intro rfl ?_ | refine And.intro (Or.inl rfl) ?_ | refine And.intro (Or.inr rfl) ?_ | refine And.intro (Nat.le_of_ble_eq_true rfl) ?_ | refine And.intro (And.intro rfl rfl) ?_ | exact rfl
      obtain ⟨r1, cr1, hr⟩ := Option.bind_eq_some_iff.mp hr
      refine Exists.intro _ (Exists.intro _ (And.intro (zr_X12_whereBits F I J d N (l1 - 3) r1 cr1) ?_))
      repeat' first | refine And.intro rfl ?_ | refine And.intro (Or.inl rfl) ?_ | refine And.intro (Or.inr rfl) ?_ | refine And.intro (Nat.le_of_ble_eq_true rfl) ?_ | refine And.intro (And.intro rfl rfl) ?_ | exact rfl
      cases hr
      repeat' first | refine And.intro rfl ?_ | refine And.intro (Or.inl rfl) ?_ | refine And.intro (Or.inr rfl) ?_ | refine And.intro (Nat.le_of_ble_eq_true rfl) ?_ | refine And.intro (And.intro rfl rfl) ?_ | exact rfl
theorem zr_X12_count (F : zz_F) (I : Nat → Nat → Int32) (J : Nat → Nat → Int64) (d N : Nat) (l1 : Int32) (r : Int32 × (Nat → Nat → Int32) × (Nat → Nat → Int64)) (h : zf_X12_count N l1 I J = some r) : zz_run (d+1) 304 0 [some (.ref 52), some (.int (l1))] [] (zz_S F I J) (some (.int (r.1))) (zz_S F (r.2.1) (J)) := (zq_X12_count F d N N).1 l1 I J r h
def zb_J6_numberOfLeadingZeros_0 (N : Nat) (rec : Nat → Int32 → Int32 → (Nat → Nat → Int32) → (Nat → Nat → Int64) → Option (Int32 × (Nat → Nat → Int32) × (Nat → Nat → Int64))) (l0 : Int32) (l1 : Int32) (I : Nat → Nat → Int32) (J : Nat → Nat → Int64) : Option (Int32 × (Nat → Nat → Int32) × (Nat → Nat → Int64)) := if 0 < l0 then (if l0 < 65536 then (rec 33 l0 31 I J) else (rec 33 ((l0.toUInt32 >>> ((16 : Int32).toUInt32 &&& Int32.toUInt32 31)).toInt32) (31 + (-16)) I J)) else (if ¬ l0 = 0 then (some (0, I, J)) else (some (32, I, J)))
def zb_J6_numberOfLeadingZeros_33 (N : Nat) (rec : Nat → Int32 → Int32 → (Nat → Nat → Int32) → (Nat → Nat → Int64) → Option (Int32 × (Nat → Nat → Int32) × (Nat → Nat → Int64))) (l0 : Int32) (l1 : Int32) (I : Nat → Nat → Int32) (J : Nat → Nat → Int64) : Option (Int32 × (Nat → Nat → Int32) × (Nat → Nat → Int64)) := if l0 < 256 then (rec 48 l0 l1 I J) else (rec 48 ((l0.toUInt32 >>> ((8 : Int32).toUInt32 &&& Int32.toUInt32 31)).toInt32) (l1 + (-8)) I J)
def zb_J6_numberOfLeadingZeros_48 (N : Nat) (rec : Nat → Int32 → Int32 → (Nat → Nat → Int32) → (Nat → Nat → Int64) → Option (Int32 × (Nat → Nat → Int32) × (Nat → Nat → Int64))) (l0 : Int32) (l1 : Int32) (I : Nat → Nat → Int32) (J : Nat → Nat → Int64) : Option (Int32 × (Nat → Nat → Int32) × (Nat → Nat → Int64)) := if l0 < 16 then (rec 61 l0 l1 I J) else (rec 61 ((l0.toUInt32 >>> ((4 : Int32).toUInt32 &&& Int32.toUInt32 31)).toInt32) (l1 + (-4)) I J)
def zb_J6_numberOfLeadingZeros_61 (N : Nat) (rec : Nat → Int32 → Int32 → (Nat → Nat → Int32) → (Nat → Nat → Int64) → Option (Int32 × (Nat → Nat → Int32) × (Nat → Nat → Int64))) (l0 : Int32) (l1 : Int32) (I : Nat → Nat → Int32) (J : Nat → Nat → Int64) : Option (Int32 × (Nat → Nat → Int32) × (Nat → Nat → Int64)) := if l0 < 4 then (rec 73 l0 l1 I J) else (rec 73 ((l0.toUInt32 >>> ((2 : Int32).toUInt32 &&& Int32.toUInt32 31)).toInt32) (l1 + (-2)) I J)
def zb_J6_numberOfLeadingZeros_73 (N : Nat) (rec : Nat → Int32 → Int32 → (Nat → Nat → Int32) → (Nat → Nat → Int64) → Option (Int32 × (Nat → Nat → Int32) × (Nat → Nat → Int64))) (l0 : Int32) (l1 : Int32) (I : Nat → Nat → Int32) (J : Nat → Nat → Int64) : Option (Int32 × (Nat → Nat → Int32) × (Nat → Nat → Int64)) := some (l1 - ((l0.toUInt32 >>> ((1 : Int32).toUInt32 &&& Int32.toUInt32 31)).toInt32), I, J)
def zl_J6_numberOfLeadingZeros (N : Nat) : Nat → Nat → Int32 → Int32 → (Nat → Nat → Int32) → (Nat → Nat → Int64) → Option (Int32 × (Nat → Nat → Int32) × (Nat → Nat → Int64))
  | 0 => fun _ _ _ _ _ => none
  | n + 1 => fun pc l0 l1 I J => if pc = 0 then zb_J6_numberOfLeadingZeros_0 N (zl_J6_numberOfLeadingZeros N n) l0 l1 I J else (if pc = 33 then zb_J6_numberOfLeadingZeros_33 N (zl_J6_numberOfLeadingZeros N n) l0 l1 I J else (if pc = 48 then zb_J6_numberOfLeadingZeros_48 N (zl_J6_numberOfLeadingZeros N n) l0 l1 I J else (if pc = 61 then zb_J6_numberOfLeadingZeros_61 N (zl_J6_numberOfLeadingZeros N n) l0 l1 I J else (if pc = 73 then zb_J6_numberOfLeadingZeros_73 N (zl_J6_numberOfLeadingZeros N n) l0 l1 I J else none))))
def zf_J6_numberOfLeadingZeros (N : Nat) (l0 : Int32) (I : Nat → Nat → Int32) (J : Nat → Nat → Int64) : Option (Int32 × (Nat → Nat → Int32) × (Nat → Nat → Int64)) := zl_J6_numberOfLeadingZeros N N 0 l0 0 I J
theorem zq_J6_numberOfLeadingZeros (F : zz_F) (d N : Nat) : ∀ n : Nat, (∀ (l0 : Int32) (l1 : Int32) (I : Nat → Nat → Int32) (J : Nat → Nat → Int64) (r : Int32 × (Nat → Nat → Int32) × (Nat → Nat → Int64)), zl_J6_numberOfLeadingZeros N n 0 l0 l1 I J = some r → zz_run (d) 306 0 [some (.int (l0)), none] [] (zz_S F I J) (some (.int (r.1))) (zz_S F (I) (J))) ∧ (∀ (l0 : Int32) (l1 : Int32) (I : Nat → Nat → Int32) (J : Nat → Nat → Int64) (r : Int32 × (Nat → Nat → Int32) × (Nat → Nat → Int64)), zl_J6_numberOfLeadingZeros N n 33 l0 l1 I J = some r → zz_run (d) 306 33 [some (.int (l0)), some (.int (l1))] [] (zz_S F I J) (some (.int (r.1))) (zz_S F (I) (J))) ∧ (∀ (l0 : Int32) (l1 : Int32) (I : Nat → Nat → Int32) (J : Nat → Nat → Int64) (r : Int32 × (Nat → Nat → Int32) × (Nat → Nat → Int64)), zl_J6_numberOfLeadingZeros N n 48 l0 l1 I J = some r → zz_run (d) 306 48 [some (.int (l0)), some (.int (l1))] [] (zz_S F I J) (some (.int (r.1))) (zz_S F (I) (J))) ∧ (∀ (l0 : Int32) (l1 : Int32) (I : Nat → Nat → Int32) (J : Nat → Nat → Int64) (r : Int32 × (Nat → Nat → Int32) × (Nat → Nat → Int64)), zl_J6_numberOfLeadingZeros N n 61 l0 l1 I J = some r → zz_run (d) 306 61 [some (.int (l0)), some (.int (l1))] [] (zz_S F I J) (some (.int (r.1))) (zz_S F (I) (J))) ∧ (∀ (l0 : Int32) (l1 : Int32) (I : Nat → Nat → Int32) (J : Nat → Nat → Int64) (r : Int32 × (Nat → Nat → Int32) × (Nat → Nat → Int64)), zl_J6_numberOfLeadingZeros N n 73 l0 l1 I J = some r → zz_run (d) 306 73 [some (.int (l0)), some (.int (l1))] [] (zz_S F I J) (some (.int (r.1))) (zz_S F (I) (J))) := by
  intro n
  induction n with
  | zero => exact ⟨fun _ _ _ _ _ h => zz_no h, fun _ _ _ _ _ h => zz_no h, fun _ _ _ _ _ h => zz_no h, fun _ _ _ _ _ h => zz_no h, fun _ _ _ _ _ h => zz_no h⟩
  | succ n ih =>
    obtain ⟨ih0, ih33, ih48, ih61, ih73⟩ := ih
    refine ⟨?_, ?_, ?_, ?_, ?_⟩
    · intro l0 l1 I J r hr
      replace hr : zb_J6_numberOfLeadingZeros_0 N (zl_J6_numberOfLeadingZeros N n) l0 l1 I J = some r := hr
      unfold zb_J6_numberOfLeadingZeros_0 at hr
      refine zs_306_0 ?_
      repeat' first | refine And.intro rfl ?_ | refine And.intro (Or.inl rfl) ?_ | refine And.intro (Or.inr rfl) ?_ | refine And.intro (Nat.le_of_ble_eq_true rfl) ?_ | refine And.intro (And.intro rfl rfl) ?_ | exact rfl
      refine And.intro (fun (h1 : 0 < l0) => ?_) (fun (h1 : ¬ (0 < l0)) => ?_)
      · rw [if_pos h1] at hr
        refine zs_306_15 ?_
        repeat' first | refine And.intro rfl ?_ | refine And.intro (Or.inl rfl) ?_ | refine And.intro (Or.inr rfl) ?_ | refine And.intro (Nat.le_of_ble_eq_true rfl) ?_ | refine And.intro (And.intro rfl rfl) ?_ | exact rfl
        refine And.intro (fun (h2 : l0 < 65536) => ?_) (fun (h2 : ¬ (l0 < 65536)) => ?_)
        · rw [if_pos h2] at hr
          exact zz_wk [true, true] rfl (ih33 _ _ _ _ _ hr)
        · rw [if_neg h2] at hr
          repeat' first | refine And.intro rfl ?_ | refine And.intro (Or.inl rfl) ?_ | refine And.intro (Or.inr rfl) ?_ | refine And.intro (Nat.le_of_ble_eq_true rfl) ?_ | refine And.intro (And.intro rfl rfl) ?_ | exact rfl
          exact zz_wk [true, true] rfl (ih33 _ _ _ _ _ hr)
      · rw [if_neg h1] at hr
        repeat' first | refine And.intro rfl ?_ | refine And.intro (Or.inl rfl) ?_ | refine And.intro (Or.inr rfl) ?_ | refine And.intro (Nat.le_of_ble_eq_true rfl) ?_ | refine And.intro (And.intro rfl rfl) ?_ | exact rfl
        refine And.intro (fun (h3 : ¬ l0 = 0) => ?_) (fun (h3 : ¬ (¬ l0 = 0)) => ?_)
        · rw [if_pos h3] at hr
          refine zs_306_13 ?_
          repeat' first | refine And.intro rfl ?_ | refine And.intro (Or.inl rfl) ?_ | refine And.intro (Or.inr rfl) ?_ | refine And.intro (Nat.le_of_ble_eq_true rfl) ?_ | refine And.intro (And.intro rfl rfl) ?_ | exact rfl
          refine zs_306_14 ?_
          repeat' first | refine And.intro rfl ?_ | refine And.intro (Or.inl rfl) ?_ | refine And.intro (Or.inr rfl) ?_ | refine And.intro (Nat.le_of_ble_eq_true rfl) ?_ | refine And.intro (And.intro rfl rfl) ?_ | exact rfl
          cases hr
          repeat' first | refine And.intro rfl ?_ | refine And.intro (Or.inl rfl) ?_ | refine And.intro (Or.inr rfl) ?_ | refine And.intro (Nat.le_of_ble_eq_true rfl) ?_ | refine And.intro (And.intro rfl rfl) ?_ | exact rfl
        · rw [if_neg h3] at hr
          repeat' first | refine And.intro rfl ?_ | refine And.intro (Or.inl rfl) ?_ | refine And.intro (Or.inr rfl) ?_ | refine And.intro (Nat.le_of_ble_eq_true rfl) ?_ | refine And.intro (And.intro rfl rfl) ?_ | exact rfl
          refine zs_306_14 ?_
          repeat' first | refine And.intro rfl ?_ | refine And.intro (Or.inl rfl) ?_ | refine And.intro (Or.inr rfl) ?_ | refine And.intro (Nat.le_of_ble_eq_true rfl) ?_ | refine And.intro (And.intro rfl rfl) ?_ | exact rfl
          cases hr
          repeat' first | refine And.intro rfl ?_ | refine And.intro (Or.inl rfl) ?_ | refine And.intro (Or.inr rfl) ?_ | refine And.intro (Nat.le_of_ble_eq_true rfl) ?_ | refine And.intro (And.intro rfl rfl) ?_ | exact rfl
    · intro l0 l1 I J r hr
      replace hr : zb_J6_numberOfLeadingZeros_33 N (zl_J6_numberOfLeadingZeros N n) l0 l1 I J = some r := hr
      unfold zb_J6_numberOfLeadingZeros_33 at hr
      refine zs_306_33 ?_
      repeat' first | refine And.intro rfl ?_ | refine And.intro (Or.inl rfl) ?_ | refine And.intro (Or.inr rfl) ?_ | refine And.intro (Nat.le_of_ble_eq_true rfl) ?_ | refine And.intro (And.intro rfl rfl) ?_ | exact rfl
      refine And.intro (fun (h4 : l0 < 256) => ?_) (fun (h4 : ¬ (l0 < 256)) => ?_)
      · rw [if_pos h4] at hr
        exact zz_wk [true, true] rfl (ih48 _ _ _ _ _ hr)
      · rw [if_neg h4] at hr
        repeat' first | refine And.intro rfl ?_ | refine And.intro (Or.inl rfl) ?_ | refine And.intro (Or.inr rfl) ?_ | refine And.intro (Nat.le_of_ble_eq_true rfl) ?_ | refine And.intro (And.intro rfl rfl) ?_ | exact rfl
        exact zz_wk [true, true] rfl (ih48 _ _ _ _ _ hr)
    · intro l0 l1 I J r hr
      replace hr : zb_J6_numberOfLeadingZeros_48 N (zl_J6_numberOfLeadingZeros N n) l0 l1 I J = some r := hr
      unfold zb_J6_numberOfLeadingZeros_48 at hr
      refine zs_306_48 ?_
      repeat' first | refine And.intro rfl ?_ | refine And.intro (Or.inl rfl) ?_ | refine And.intro (Or.inr rfl) ?_ | refine And.intro (Nat.le_of_ble_eq_true rfl) ?_ | refine And.intro (And.intro rfl rfl) ?_ | exact rfl
      refine And.intro (fun (h5 : l0 < 16) => ?_) (fun (h5 : ¬ (l0 < 16)) => ?_)
      · rw [if_pos h5] at hr
        exact zz_wk [true, true] rfl (ih61 _ _ _ _ _ hr)
      · rw [if_neg h5] at hr
        repeat' first | refine And.intro rfl ?_ | refine And.intro (Or.inl rfl) ?_ | refine And.intro (Or.inr rfl) ?_ | refine And.intro (Nat.le_of_ble_eq_true rfl) ?_ | refine And.intro (And.intro rfl rfl) ?_ | exact rfl
        exact zz_wk [true, true] rfl (ih61 _ _ _ _ _ hr)
    · intro l0 l1 I J r hr
      replace hr : zb_J6_numberOfLeadingZeros_61 N (zl_J6_numberOfLeadingZeros N n) l0 l1 I J = some r := hr
      unfold zb_J6_numberOfLeadingZeros_61 at hr
      refine zs_306_61 ?_
      repeat' first | refine And.intro rfl ?_ | refine And.intro (Or.inl rfl) ?_ | refine And.intro (Or.inr rfl) ?_ | refine And.intro (Nat.le_of_ble_eq_true rfl) ?_ | refine And.intro (And.intro rfl rfl) ?_ | exact rfl
      refine And.intro (fun (h6 : l0 < 4) => ?_) (fun (h6 : ¬ (l0 < 4)) => ?_)
      · rw [if_pos h6] at hr
        exact zz_wk [true, true] rfl (ih73 _ _ _ _ _ hr)
      · rw [if_neg h6] at hr
        repeat' first | refine And.intro rfl ?_ | refine And.intro (Or.inl rfl) ?_ | refine And.intro (Or.inr rfl) ?_ | refine And.intro (Nat.le_of_ble_eq_true rfl) ?_ | refine And.intro (And.intro rfl rfl) ?_ | exact rfl
        exact zz_wk [true, true] rfl (ih73 _ _ _ _ _ hr)
    · intro l0 l1 I J r hr
      replace hr : zb_J6_numberOfLeadingZeros_73 N (zl_J6_numberOfLeadingZeros N n) l0 l1 I J = some r := hr
      unfold zb_J6_numberOfLeadingZeros_73 at hr
      refine zs_306_73 ?_
      repeat' first | refine And.intro rfl ?_ | refine And.intro (Or.inl rfl) ?_ | refine And.intro (Or.inr rfl) ?_ | refine And.intro (Nat.le_of_ble_eq_true rfl) ?_ | refine And.intro (And.intro rfl rfl) ?_ | exact rfl
      cases hr
      repeat' first | refine And.intro rfl ?_ | refine And.intro (Or.inl rfl) ?_ | refine And.intro (Or.inr rfl) ?_ | refine And.intro (Nat.le_of_ble_eq_true rfl) ?_ | refine And.intro (And.intro rfl rfl) ?_ | exact rfl
theorem zr_J6_numberOfLeadingZeros (F : zz_F) (I : Nat → Nat → Int32) (J : Nat → Nat → Int64) (d N : Nat) (l0 : Int32) (r : Int32 × (Nat → Nat → Int32) × (Nat → Nat → Int64)) (h : zf_J6_numberOfLeadingZeros N l0 I J = some r) : zz_run (d) 306 0 [some (.int (l0)), none] [] (zz_S F I J) (some (.int (r.1))) (zz_S F (I) (J)) := (zq_J6_numberOfLeadingZeros F d N N).1 l0 0 I J r h
def zb_X7_faultIn_X0__3_0 (N : Nat) (rec : Nat → Int32 → Int32 → Int32 → Int32 → (Nat → Nat → Int32) → (Nat → Nat → Int64) → Option (Int32 × (Nat → Nat → Int32) × (Nat → Nat → Int64))) (l2 : Int32) (l3 : Int32) (l4 : Int32) (l5 : Int32) (I : Nat → Nat → Int32) (J : Nat → Nat → Int64) : Option (Int32 × (Nat → Nat → Int32) × (Nat → Nat → Int64)) := rec 19 l2 l3 (zz_min l2 (zz_min l3 (nI 80))) 0 (zw_X0_begin I) J
def zb_X7_faultIn_X0__3_19 (N : Nat) (rec : Nat → Int32 → Int32 → Int32 → Int32 → (Nat → Nat → Int32) → (Nat → Nat → Int64) → Option (Int32 × (Nat → Nat → Int32) × (Nat → Nat → Int64))) (l2 : Int32) (l3 : Int32) (l4 : Int32) (l5 : Int32) (I : Nat → Nat → Int32) (J : Nat → Nat → Int64) : Option (Int32 × (Nat → Nat → Int32) × (Nat → Nat → Int64)) := if l4 ≤ l5 then (if l2 ≤ l3 then (if (zv_X0_mayEnd I) = 0 then (some (l4, I, J)) else (some ((-1), I, J))) else (some (l3, I, J))) else (if ¬ (l5 < 0 ∨ 80 ≤ l5.toNatClampNeg) then (if ¬ (zv_X0_takes I (I 3 l5.toNatClampNeg)) = 0 then (rec 19 l2 l3 l4 (l5 + 1) (zw_X0_takes I (I 3 l5.toNatClampNeg)) J) else (some (l5, zw_X0_takes I (I 3 l5.toNatClampNeg), J))) else none)
def zl_X7_faultIn_X0__3 (N : Nat) : Nat → Nat → Int32 → Int32 → Int32 → Int32 → (Nat → Nat → Int32) → (Nat → Nat → Int64) → Option (Int32 × (Nat → Nat → Int32) × (Nat → Nat → Int64))
  | 0 => fun _ _ _ _ _ _ _ => none
  | n + 1 => fun pc l2 l3 l4 l5 I J => if pc = 0 then zb_X7_faultIn_X0__3_0 N (zl_X7_faultIn_X0__3 N n) l2 l3 l4 l5 I J else (if pc = 19 then zb_X7_faultIn_X0__3_19 N (zl_X7_faultIn_X0__3 N n) l2 l3 l4 l5 I J else none)
def zf_X7_faultIn_X0__3 (N : Nat) (l2 : Int32) (l3 : Int32) (I : Nat → Nat → Int32) (J : Nat → Nat → Int64) : Option (Int32 × (Nat → Nat → Int32) × (Nat → Nat → Int64)) := zl_X7_faultIn_X0__3 N N 0 l2 l3 0 0 I J
theorem zq_X7_faultIn_X0__3 (F : zz_F) (d N : Nat) : ∀ n : Nat, (∀ (l2 : Int32) (l3 : Int32) (l4 : Int32) (l5 : Int32) (I : Nat → Nat → Int32) (J : Nat → Nat → Int64) (r : Int32 × (Nat → Nat → Int32) × (Nat → Nat → Int64)), zl_X7_faultIn_X0__3 N n 0 l2 l3 l4 l5 I J = some r → zz_run (d+1) 311 0 [some (.ref 40), some (.ref 3), some (.int (l2)), some (.int (l3)), none, none] [] (zz_S F I J) (some (.int (r.1))) (zz_S F (r.2.1) (J))) ∧ (∀ (l2 : Int32) (l3 : Int32) (l4 : Int32) (l5 : Int32) (I : Nat → Nat → Int32) (J : Nat → Nat → Int64) (r : Int32 × (Nat → Nat → Int32) × (Nat → Nat → Int64)), zl_X7_faultIn_X0__3 N n 19 l2 l3 l4 l5 I J = some r → zz_run (d+1) 311 19 [some (.ref 40), some (.ref 3), some (.int (l2)), some (.int (l3)), some (.int (l4)), some (.int (l5))] [] (zz_S F I J) (some (.int (r.1))) (zz_S F (r.2.1) (J))) := by
  intro n
  induction n with
  | zero => exact ⟨fun _ _ _ _ _ _ _ h => zz_no h, fun _ _ _ _ _ _ _ h => zz_no h⟩
  | succ n ih =>
    obtain ⟨ih0, ih19⟩ := ih
    refine ⟨?_, ?_⟩
    · intro l2 l3 l4 l5 I J r hr
      replace hr : zb_X7_faultIn_X0__3_0 N (zl_X7_faultIn_X0__3 N n) l2 l3 l4 l5 I J = some r := hr
      unfold zb_X7_faultIn_X0__3_0 at hr
      refine zs_311_0 ?_
      repeat' first | refine And.intro rfl ?_ | refine And.intro (Or.inl rfl) ?_ | refine And.intro (Or.inr rfl) ?_ | refine And.intro (Nat.le_of_ble_eq_true rfl) ?_ | refine And.intro (And.intro rfl rfl) ?_ | exact rfl
      refine Exists.intro _ (Exists.intro _ (And.intro (zr_X0_begin F I J d ) ?_))
      repeat' first | refine And.intro rfl ?_ | refine And.intro (Or.inl rfl) ?_ | refine And.intro (Or.inr rfl) ?_ | refine And.intro (Nat.le_of_ble_eq_true rfl) ?_ | refine And.intro (And.intro rfl rfl) ?_ | exact rfl
      refine Exists.intro _ (Exists.intro _ (And.intro (zr_min F (zw_X0_begin I) J d l3 (nI 80)) ?_))
      repeat' first | refine And.intro rfl ?_ | refine And.intro (Or.inl rfl) ?_ | refine And.intro (Or.inr rfl) ?_ | refine And.intro (Nat.le_of_ble_eq_true rfl) ?_ | refine And.intro (And.intro rfl rfl) ?_ | exact rfl
      refine Exists.intro _ (Exists.intro _ (And.intro (zr_min F (zw_X0_begin I) J d l2 (zz_min l3 (nI 80))) ?_))
      repeat' first | refine And.intro rfl ?_ | refine And.intro (Or.inl rfl) ?_ | refine And.intro (Or.inr rfl) ?_ | refine And.intro (Nat.le_of_ble_eq_true rfl) ?_ | refine And.intro (And.intro rfl rfl) ?_ | exact rfl
      exact zz_wk [true, true, true, true, true, true] rfl (ih19 _ _ _ _ _ _ _ hr)
    · intro l2 l3 l4 l5 I J r hr
      replace hr : zb_X7_faultIn_X0__3_19 N (zl_X7_faultIn_X0__3 N n) l2 l3 l4 l5 I J = some r := hr
      unfold zb_X7_faultIn_X0__3_19 at hr
      refine zs_311_19 ?_
      repeat' first | refine And.intro rfl ?_ | refine And.intro (Or.inl rfl) ?_ | refine And.intro (Or.inr rfl) ?_ | refine And.intro (Nat.le_of_ble_eq_true rfl) ?_ | refine And.intro (And.intro rfl rfl) ?_ | exact rfl
      refine And.intro (fun (h1 : l4 ≤ l5) => ?_) (fun (h1 : ¬ (l4 ≤ l5)) => ?_)
      · rw [if_pos h1] at hr
        refine zs_311_46 ?_
        repeat' first | refine And.intro rfl ?_ | refine And.intro (Or.inl rfl) ?_ | refine And.intro (Or.inr rfl) ?_ | refine And.intro (Nat.le_of_ble_eq_true rfl) ?_ | refine And.intro (And.intro rfl rfl) ?_ | exact rfl
        refine And.intro (fun (h2 : l2 ≤ l3) => ?_) (fun (h2 : ¬ (l2 ≤ l3)) => ?_)
        · rw [if_pos h2] at hr
          refine zs_311_53 ?_
          repeat' first | refine And.intro rfl ?_ | refine And.intro (Or.inl rfl) ?_ | refine And.intro (Or.inr rfl) ?_ | refine And.intro (Nat.le_of_ble_eq_true rfl) ?_ | refine And.intro (And.intro rfl rfl) ?_ | exact rfl
          refine Exists.intro _ (Exists.intro _ (And.intro (zr_X0_mayEnd F I J d ) ?_))
          repeat' first | refine And.intro rfl ?_ | refine And.intro (Or.inl rfl) ?_ | refine And.intro (Or.inr rfl) ?_ | refine And.intro (Nat.le_of_ble_eq_true rfl) ?_ | refine And.intro (And.intro rfl rfl) ?_ | exact rfl
          refine And.intro (fun (h3 : (zv_X0_mayEnd I) = 0) => ?_) (fun (h3 : ¬ ((zv_X0_mayEnd I) = 0)) => ?_)
          · rw [if_pos h3] at hr
            refine zs_311_64 ?_
            repeat' first | refine And.intro rfl ?_ | refine And.intro (Or.inl rfl) ?_ | refine And.intro (Or.inr rfl) ?_ | refine And.intro (Nat.le_of_ble_eq_true rfl) ?_ | refine And.intro (And.intro rfl rfl) ?_ | exact rfl
            refine zs_311_66 ?_
            repeat' first | refine And.intro rfl ?_ | refine And.intro (Or.inl rfl) ?_ | refine And.intro (Or.inr rfl) ?_ | refine And.intro (Nat.le_of_ble_eq_true rfl) ?_ | refine And.intro (And.intro rfl rfl) ?_ | exact rfl
            cases hr
            repeat' first | refine And.intro rfl ?_ | refine And.intro (Or.inl rfl) ?_ | refine And.intro (Or.inr rfl) ?_ | refine And.intro (Nat.le_of_ble_eq_true rfl) ?_ | refine And.intro (And.intro rfl rfl) ?_ | exact rfl
          · rw [if_neg h3] at hr
            repeat' first | refine And.intro rfl ?_ | refine And.intro (Or.inl rfl) ?_ | refine And.intro (Or.inr rfl) ?_ | refine And.intro (Nat.le_of_ble_eq_true rfl) ?_ | refine And.intro (And.intro rfl rfl) ?_ | exact rfl
            refine zs_311_66 ?_
            repeat' first | refine And.intro rfl ?_ | refine And.intro (Or.inl rfl) ?_ | refine And.intro (Or.inr rfl) ?_ | refine And.intro (Nat.le_of_ble_eq_true rfl) ?_ | refine And.intro (And.intro rfl rfl) ?_ | exact rfl
            cases hr
            repeat' first | refine And.intro rfl ?_ | refine And.intro (Or.inl rfl) ?_ | refine And.intro (Or.inr rfl) ?_ | refine And.intro (Nat.le_of_ble_eq_true rfl) ?_ | refine And.intro (And.intro rfl rfl) ?_ | exact rfl
        · rw [if_neg h2] at hr
          repeat' first | refine And.intro rfl ?_ | refine And.intro (Or.inl rfl) ?_ | refine And.intro (Or.inr rfl) ?_ | refine And.intro (Nat.le_of_ble_eq_true rfl) ?_ | refine And.intro (And.intro rfl rfl) ?_ | exact rfl
          cases hr
          repeat' first | refine And.intro rfl ?_ | refine And.intro (Or.inl rfl) ?_ | refine And.intro (Or.inr rfl) ?_ | refine And.intro (Nat.le_of_ble_eq_true rfl) ?_ | refine And.intro (And.intro rfl rfl) ?_ | exact rfl
      · rw [if_neg h1] at hr
        repeat' first | refine And.intro rfl ?_ | refine And.intro (Or.inl rfl) ?_ | refine And.intro (Or.inr rfl) ?_ | refine And.intro (Nat.le_of_ble_eq_true rfl) ?_ | refine And.intro (And.intro rfl rfl) ?_ | exact rfl
        have g1 : ¬ (l5 < 0 ∨ 80 ≤ l5.toNatClampNeg) := zz_g hr
        replace hr := zz_gt hr
        refine And.intro (g1) ?_
        repeat' first | refine And.intro rfl ?_ | refine And.intro (Or.inl rfl) ?_ | refine And.intro (Or.inr rfl) ?_ | refine And.intro (Nat.le_of_ble_eq_true rfl) ?_ | refine And.intro (And.intro rfl rfl) ?_ | exact rfl
        refine Exists.intro _ (Exists.intro _ (And.intro (zr_X0_takes F I J d (I 3 l5.toNatClampNeg)) ?_))
        repeat' first | refine And.intro rfl ?_ | refine And.intro (Or.inl rfl) ?_ | refine And.intro (Or.inr rfl) ?_ | refine And.intro (Nat.le_of_ble_eq_true rfl) ?_ | refine And.intro (And.intro rfl rfl) ?_ | exact rfl
        refine And.intro (fun (h4 : ¬ (zv_X0_takes I (I 3 l5.toNatClampNeg)) = 0) => ?_) (fun (h4 : ¬ (¬ (zv_X0_takes I (I 3 l5.toNatClampNeg)) = 0)) => ?_)
        · rw [if_pos h4] at hr
          refine zs_311_40 ?_
          repeat' first | refine And.intro rfl ?_ | refine And.intro (Or.inl rfl) ?_ | refine And.intro (Or.inr rfl) ?_ | refine And.intro (Nat.le_of_ble_eq_true rfl) ?_ | refine And.intro (And.intro rfl rfl) ?_ | exact rfl
          exact zz_wk [true, true, true, true, true, true] rfl (ih19 _ _ _ _ _ _ _ hr)
        · rw [if_neg h4] at hr
          repeat' first | refine And.intro rfl ?_ | refine And.intro (Or.inl rfl) ?_ | refine And.intro (Or.inr rfl) ?_ | refine And.intro (Nat.le_of_ble_eq_true rfl) ?_ | refine And.intro (And.intro rfl rfl) ?_ | exact rfl
          cases hr
          repeat' first | refine And.intro rfl ?_ | refine And.intro (Or.inl rfl) ?_ | refine And.intro (Or.inr rfl) ?_ | refine And.intro (Nat.le_of_ble_eq_true rfl) ?_ | refine And.intro (And.intro rfl rfl) ?_ | exact rfl
theorem zr_X7_faultIn_X0__3 (F : zz_F) (I : Nat → Nat → Int32) (J : Nat → Nat → Int64) (d N : Nat) (l2 : Int32) (l3 : Int32) (r : Int32 × (Nat → Nat → Int32) × (Nat → Nat → Int64)) (h : zf_X7_faultIn_X0__3 N l2 l3 I J = some r) : zz_run (d+1) 311 0 [some (.ref 40), some (.ref 3), some (.int (l2)), some (.int (l3)), none, none] [] (zz_S F I J) (some (.int (r.1))) (zz_S F (r.2.1) (J)) := (zq_X7_faultIn_X0__3 F d N N).1 l2 l3 0 0 I J r h
def zb_X1_takeFrom__37_0 (N : Nat) (rec : Nat → (Nat → Nat → Int32) → (Nat → Nat → Int64) → Option (Int32 × (Nat → Nat → Int32) × (Nat → Nat → Int64)))  (I : Nat → Nat → Int32) (J : Nat → Nat → Int64) : Option (Int32 × (Nat → Nat → Int32) × (Nat → Nat → Int64)) := (zf_X1_takeCode__38 N (I 37 2) I J).bind fun r1 => some (0, r1.2.1, J)
def zl_X1_takeFrom__37 (N : Nat) : Nat → Nat → (Nat → Nat → Int32) → (Nat → Nat → Int64) → Option (Int32 × (Nat → Nat → Int32) × (Nat → Nat → Int64))
  | 0 => fun _ _ _ => none
  | n + 1 => fun pc  I J => if pc = 0 then zb_X1_takeFrom__37_0 N (zl_X1_takeFrom__37 N n)  I J else none
def zf_X1_takeFrom__37 (N : Nat)  (I : Nat → Nat → Int32) (J : Nat → Nat → Int64) : Option (Int32 × (Nat → Nat → Int32) × (Nat → Nat → Int64)) := zl_X1_takeFrom__37 N N 0  I J
theorem zq_X1_takeFrom__37 (F : zz_F) (d N : Nat) : ∀ n : Nat, (∀  (I : Nat → Nat → Int32) (J : Nat → Nat → Int64) (r : Int32 × (Nat → Nat → Int32) × (Nat → Nat → Int64)), zl_X1_takeFrom__37 N n 0  I J = some r → zz_run (d+2) 6 0 [some (.ref 28), some (.ref 37)] [] (zz_S F I J) none (zz_S F (r.2.1) (J))) := by
  intro n
  induction n with
  | zero => exact fun _ _ _ h => zz_no h
  | succ n ih =>
    have ih0 := ih
    skip
    · intro  I J r hr
      replace hr : zb_X1_takeFrom__37_0 N (zl_X1_takeFrom__37 N n)  I J = some r := hr
      unfold zb_X1_takeFrom__37_0 at hr
      refine zs_6_0 ?_
      repeat' first | refine And.intro rfl ?_ | refine And.intro (Or.inl rfl) ?_ | refine And.intro (Or.inr rfl) ?_ | refine And.intro (Nat.le_of_ble_eq_true rfl) ?_ | refine And.intro (And.intro rfl rfl) ?_ | exact rfl
      obtain ⟨r1, cr1, hr⟩ := Option.bind_eq_some_iff.mp hr
      refine Exists.intro _ (Exists.intro _ (And.intro (zr_X1_takeCode__38 F I J d N (I 37 2) r1 cr1) ?_))
      repeat' first | refine And.intro rfl ?_ | refine And.intro (Or.inl rfl) ?_ | refine And.intro (Or.inr rfl) ?_ | refine And.intro (Nat.le_of_ble_eq_true rfl) ?_ | refine And.intro (And.intro rfl rfl) ?_ | exact rfl
      cases hr
      repeat' first | refine And.intro rfl ?_ | refine And.intro (Or.inl rfl) ?_ | refine And.intro (Or.inr rfl) ?_ | refine And.intro (Nat.le_of_ble_eq_true rfl) ?_ | refine And.intro (And.intro rfl rfl) ?_ | exact rfl
theorem zr_X1_takeFrom__37 (F : zz_F) (I : Nat → Nat → Int32) (J : Nat → Nat → Int64) (d N : Nat)  (r : Int32 × (Nat → Nat → Int32) × (Nat → Nat → Int64)) (h : zf_X1_takeFrom__37 N  I J = some r) : zz_run (d+2) 6 0 [some (.ref 28), some (.ref 37)] [] (zz_S F I J) none (zz_S F (r.2.1) (J)) := (zq_X1_takeFrom__37 F d N N)  I J r h
def zb_X1_takeFrom_32__37_0 (N : Nat) (rec : Nat → (Nat → Nat → Int32) → (Nat → Nat → Int64) → Option (Int32 × (Nat → Nat → Int32) × (Nat → Nat → Int64)))  (I : Nat → Nat → Int32) (J : Nat → Nat → Int64) : Option (Int32 × (Nat → Nat → Int32) × (Nat → Nat → Int64)) := (zf_X1_takeCode_32__38 N (I 37 2) I J).bind fun r1 => some (0, r1.2.1, J)
def zl_X1_takeFrom_32__37 (N : Nat) : Nat → Nat → (Nat → Nat → Int32) → (Nat → Nat → Int64) → Option (Int32 × (Nat → Nat → Int32) × (Nat → Nat → Int64))
  | 0 => fun _ _ _ => none
  | n + 1 => fun pc  I J => if pc = 0 then zb_X1_takeFrom_32__37_0 N (zl_X1_takeFrom_32__37 N n)  I J else none
def zf_X1_takeFrom_32__37 (N : Nat)  (I : Nat → Nat → Int32) (J : Nat → Nat → Int64) : Option (Int32 × (Nat → Nat → Int32) × (Nat → Nat → Int64)) := zl_X1_takeFrom_32__37 N N 0  I J
theorem zq_X1_takeFrom_32__37 (F : zz_F) (d N : Nat) : ∀ n : Nat, (∀  (I : Nat → Nat → Int32) (J : Nat → Nat → Int64) (r : Int32 × (Nat → Nat → Int32) × (Nat → Nat → Int64)), zl_X1_takeFrom_32__37 N n 0  I J = some r → zz_run (d+2) 6 0 [some (.ref 32), some (.ref 37)] [] (zz_S F I J) none (zz_S F (r.2.1) (J))) := by
  intro n
  induction n with
  | zero => exact fun _ _ _ h => zz_no h
  | succ n ih =>
    have ih0 := ih
    skip
    · intro  I J r hr
      replace hr : zb_X1_takeFrom_32__37_0 N (zl_X1_takeFrom_32__37 N n)  I J = some r := hr
      unfold zb_X1_takeFrom_32__37_0 at hr
      refine zs_6_0 ?_
      repeat' first | refine And.intro rfl ?_ | refine And.intro (Or.inl rfl) ?_ | refine And.intro (Or.inr rfl) ?_ | refine And.intro (Nat.le_of_ble_eq_true rfl) ?_ | refine And.intro (And.intro rfl rfl) ?_ | exact rfl
      obtain ⟨r1, cr1, hr⟩ := Option.bind_eq_some_iff.mp hr
      refine Exists.intro _ (Exists.intro _ (And.intro (zr_X1_takeCode_32__38 F I J d N (I 37 2) r1 cr1) ?_))
      repeat' first | refine And.intro rfl ?_ | refine And.intro (Or.inl rfl) ?_ | refine And.intro (Or.inr rfl) ?_ | refine And.intro (Nat.le_of_ble_eq_true rfl) ?_ | refine And.intro (And.intro rfl rfl) ?_ | exact rfl
      cases hr
      repeat' first | refine And.intro rfl ?_ | refine And.intro (Or.inl rfl) ?_ | refine And.intro (Or.inr rfl) ?_ | refine And.intro (Nat.le_of_ble_eq_true rfl) ?_ | refine And.intro (And.intro rfl rfl) ?_ | exact rfl
theorem zr_X1_takeFrom_32__37 (F : zz_F) (I : Nat → Nat → Int32) (J : Nat → Nat → Int64) (d N : Nat)  (r : Int32 × (Nat → Nat → Int32) × (Nat → Nat → Int64)) (h : zf_X1_takeFrom_32__37 N  I J = some r) : zz_run (d+2) 6 0 [some (.ref 32), some (.ref 37)] [] (zz_S F I J) none (zz_S F (r.2.1) (J)) := (zq_X1_takeFrom_32__37 F d N N)  I J r h
def zb_X1_worth__5_0 (N : Nat) (rec : Nat → Int32 → Int32 → Int32 → Int32 → Int32 → (Nat → Nat → Int32) → (Nat → Nat → Int64) → Option (Int32 × (Nat → Nat → Int32) × (Nat → Nat → Int64))) (l2 : Int32) (l3 : Int32) (l4 : Int32) (l5 : Int32) (l6 : Int32) (I : Nat → Nat → Int32) (J : Nat → Nat → Int64) : Option (Int32 × (Nat → Nat → Int32) × (Nat → Nat → Int64)) := rec 6 l2 l3 0 0 0 I J
def zb_X1_worth__5_6 (N : Nat) (rec : Nat → Int32 → Int32 → Int32 → Int32 → Int32 → (Nat → Nat → Int32) → (Nat → Nat → Int64) → Option (Int32 × (Nat → Nat → Int32) × (Nat → Nat → Int64))) (l2 : Int32) (l3 : Int32) (l4 : Int32) (l5 : Int32) (l6 : Int32) (I : Nat → Nat → Int32) (J : Nat → Nat → Int64) : Option (Int32 × (Nat → Nat → Int32) × (Nat → Nat → Int64)) := if (I 28 3) ≤ l5 then (rec 185 0 0 l4 0 0 I J) else (if (nI 40) ≤ l5 then (rec 185 0 0 l4 0 0 I J) else (if ¬ (l5 < 0 ∨ 40 ≤ l5.toNatClampNeg) then (if (I 29 l5.toNatClampNeg) < 0 then (if (zv_X8_isThing (-(I 29 l5.toNatClampNeg))) = 0 then (if ¬ (I 29 l5.toNatClampNeg) = ((-256)) then (if l4 < 2 then (rec 179 l2 l3 l4 l5 0 I J) else (if (nI 40) < l4 then (rec 179 l2 l3 l4 l5 0 I J) else (if ¬ ((l4 - 2) < 0 ∨ 40 ≤ (l4 - 2).toNatClampNeg) then (if ¬ ((l4 - 1) < 0 ∨ 40 ≤ (l4 - 1).toNatClampNeg) then ((zf_X1_joined N (-(I 29 l5.toNatClampNeg)) (I 30 ((l4 - 2).toNatClampNeg)) (I 30 ((l4 - 1).toNatClampNeg)) I J).bind fun r4 => rec 179 l2 l3 (l4 + (-1)) l5 0 (zz_u I 30 ((l4 - 2).toNatClampNeg) r4.1) J) else none) else none))) else (if l4 < 1 then (rec 179 l2 l3 l4 l5 0 I J) else (if (nI 40) < l4 then (rec 179 l2 l3 l4 l5 0 I J) else (if ¬ ((l4 - 1) < 0 ∨ 40 ≤ (l4 - 1).toNatClampNeg) then (rec 179 l2 l3 l4 l5 0 (zz_u I 30 ((l4 - 1).toNatClampNeg) (-(I 30 ((l4 - 1).toNatClampNeg)))) J) else none)))) else ((zf_X1_thing__5 N (-(I 29 l5.toNatClampNeg)) l2 l3 I J).bind fun r6 => rec 179 l2 l3 (zv_X1_pushed I l4 r6.1) l5 0 (zw_X1_pushed I l4 r6.1) J)) else (rec 179 l2 l3 (zv_X1_pushed I l4 (I 29 l5.toNatClampNeg)) l5 0 (zw_X1_pushed I l4 (I 29 l5.toNatClampNeg)) J)) else none))
def zb_X1_worth__5_179 (N : Nat) (rec : Nat → Int32 → Int32 → Int32 → Int32 → Int32 → (Nat → Nat → Int32) → (Nat → Nat → Int64) → Option (Int32 × (Nat → Nat → Int32) × (Nat → Nat → Int64))) (l2 : Int32) (l3 : Int32) (l4 : Int32) (l5 : Int32) (l6 : Int32) (I : Nat → Nat → Int32) (J : Nat → Nat → Int64) : Option (Int32 × (Nat → Nat → Int32) × (Nat → Nat → Int64)) := rec 6 l2 l3 l4 (l5 + 1) 0 I J
def zb_X1_worth__5_185 (N : Nat) (rec : Nat → Int32 → Int32 → Int32 → Int32 → Int32 → (Nat → Nat → Int32) → (Nat → Nat → Int64) → Option (Int32 × (Nat → Nat → Int32) × (Nat → Nat → Int64))) (l2 : Int32) (l3 : Int32) (l4 : Int32) (l5 : Int32) (l6 : Int32) (I : Nat → Nat → Int32) (J : Nat → Nat → Int64) : Option (Int32 × (Nat → Nat → Int32) × (Nat → Nat → Int64)) := if l4 ≤ 0 then (some (0, I, J)) else (some (I 30 0, I, J))
def zl_X1_worth__5 (N : Nat) : Nat → Nat → Int32 → Int32 → Int32 → Int32 → Int32 → (Nat → Nat → Int32) → (Nat → Nat → Int64) → Option (Int32 × (Nat → Nat → Int32) × (Nat → Nat → Int64))
  | 0 => fun _ _ _ _ _ _ _ _ => none
  | n + 1 => fun pc l2 l3 l4 l5 l6 I J => if pc = 0 then zb_X1_worth__5_0 N (zl_X1_worth__5 N n) l2 l3 l4 l5 l6 I J else (if pc = 6 then zb_X1_worth__5_6 N (zl_X1_worth__5 N n) l2 l3 l4 l5 l6 I J else (if pc = 179 then zb_X1_worth__5_179 N (zl_X1_worth__5 N n) l2 l3 l4 l5 l6 I J else (if pc = 185 then zb_X1_worth__5_185 N (zl_X1_worth__5 N n) l2 l3 l4 l5 l6 I J else none)))
def zf_X1_worth__5 (N : Nat) (l2 : Int32) (l3 : Int32) (I : Nat → Nat → Int32) (J : Nat → Nat → Int64) : Option (Int32 × (Nat → Nat → Int32) × (Nat → Nat → Int64)) := zl_X1_worth__5 N N 0 l2 l3 0 0 0 I J
theorem zq_X1_worth__5 (F : zz_F) (d N : Nat) : ∀ n : Nat, (∀ (l2 : Int32) (l3 : Int32) (l4 : Int32) (l5 : Int32) (l6 : Int32) (I : Nat → Nat → Int32) (J : Nat → Nat → Int64) (r : Int32 × (Nat → Nat → Int32) × (Nat → Nat → Int64)), zl_X1_worth__5 N n 0 l2 l3 l4 l5 l6 I J = some r → zz_run (d+2) 11 0 [some (.ref 28), some (.ref 5), some (.int (l2)), some (.int (l3)), none, none, none] [] (zz_S F I J) (some (.int (r.1))) (zz_S F (r.2.1) (J))) ∧ (∀ (l2 : Int32) (l3 : Int32) (l4 : Int32) (l5 : Int32) (l6 : Int32) (I : Nat → Nat → Int32) (J : Nat → Nat → Int64) (r : Int32 × (Nat → Nat → Int32) × (Nat → Nat → Int64)), zl_X1_worth__5 N n 6 l2 l3 l4 l5 l6 I J = some r → zz_run (d+2) 11 6 [some (.ref 28), some (.ref 5), some (.int (l2)), some (.int (l3)), some (.int (l4)), some (.int (l5)), none] [] (zz_S F I J) (some (.int (r.1))) (zz_S F (r.2.1) (J))) ∧ (∀ (l2 : Int32) (l3 : Int32) (l4 : Int32) (l5 : Int32) (l6 : Int32) (I : Nat → Nat → Int32) (J : Nat → Nat → Int64) (r : Int32 × (Nat → Nat → Int32) × (Nat → Nat → Int64)), zl_X1_worth__5 N n 179 l2 l3 l4 l5 l6 I J = some r → zz_run (d+2) 11 179 [some (.ref 28), some (.ref 5), some (.int (l2)), some (.int (l3)), some (.int (l4)), some (.int (l5)), none] [] (zz_S F I J) (some (.int (r.1))) (zz_S F (r.2.1) (J))) ∧ (∀ (l2 : Int32) (l3 : Int32) (l4 : Int32) (l5 : Int32) (l6 : Int32) (I : Nat → Nat → Int32) (J : Nat → Nat → Int64) (r : Int32 × (Nat → Nat → Int32) × (Nat → Nat → Int64)), zl_X1_worth__5 N n 185 l2 l3 l4 l5 l6 I J = some r → zz_run (d+2) 11 185 [some (.ref 28), some (.ref 5), none, none, some (.int (l4)), none, none] [] (zz_S F I J) (some (.int (r.1))) (zz_S F (r.2.1) (J))) := by
  intro n
  induction n with
  | zero => exact ⟨fun _ _ _ _ _ _ _ _ h => zz_no h, fun _ _ _ _ _ _ _ _ h => zz_no h, fun _ _ _ _ _ _ _ _ h => zz_no h, fun _ _ _ _ _ _ _ _ h => zz_no h⟩
  | succ n ih =>
    obtain ⟨ih0, ih6, ih179, ih185⟩ := ih
    refine ⟨?_, ?_, ?_, ?_⟩
    · intro l2 l3 l4 l5 l6 I J r hr
      replace hr : zb_X1_worth__5_0 N (zl_X1_worth__5 N n) l2 l3 l4 l5 l6 I J = some r := hr
      unfold zb_X1_worth__5_0 at hr
      refine zs_11_0 ?_
      repeat' first | refine And.intro rfl ?_ | refine And.intro (Or.inl rfl) ?_ | refine And.intro (Or.inr rfl) ?_ | refine And.intro (Nat.le_of_ble_eq_true rfl) ?_ | refine And.intro (And.intro rfl rfl) ?_ | exact rfl
      exact zz_wk [true, true, true, true, true, true, false] rfl (ih6 _ _ _ _ _ _ _ _ hr)
    · intro l2 l3 l4 l5 l6 I J r hr
      replace hr : zb_X1_worth__5_6 N (zl_X1_worth__5 N n) l2 l3 l4 l5 l6 I J = some r := hr
      unfold zb_X1_worth__5_6 at hr
      refine zs_11_6 ?_
      repeat' first | refine And.intro rfl ?_ | refine And.intro (Or.inl rfl) ?_ | refine And.intro (Or.inr rfl) ?_ | refine And.intro (Nat.le_of_ble_eq_true rfl) ?_ | refine And.intro (And.intro rfl rfl) ?_ | exact rfl
      refine And.intro (fun (h1 : (I 28 3) ≤ l5) => ?_) (fun (h1 : ¬ ((I 28 3) ≤ l5)) => ?_)
      · rw [if_pos h1] at hr
        exact zz_wk [true, true, false, false, true, false, false] rfl (ih185 _ _ _ _ _ _ _ _ hr)
      · rw [if_neg h1] at hr
        repeat' first | refine And.intro rfl ?_ | refine And.intro (Or.inl rfl) ?_ | refine And.intro (Or.inr rfl) ?_ | refine And.intro (Nat.le_of_ble_eq_true rfl) ?_ | refine And.intro (And.intro rfl rfl) ?_ | exact rfl
        refine And.intro (fun (h2 : (nI 40) ≤ l5) => ?_) (fun (h2 : ¬ ((nI 40) ≤ l5)) => ?_)
        · rw [if_pos h2] at hr
          exact zz_wk [true, true, false, false, true, false, false] rfl (ih185 _ _ _ _ _ _ _ _ hr)
        · rw [if_neg h2] at hr
          repeat' first | refine And.intro rfl ?_ | refine And.intro (Or.inl rfl) ?_ | refine And.intro (Or.inr rfl) ?_ | refine And.intro (Nat.le_of_ble_eq_true rfl) ?_ | refine And.intro (And.intro rfl rfl) ?_ | exact rfl
          have g1 : ¬ (l5 < 0 ∨ 40 ≤ l5.toNatClampNeg) := zz_g hr
          replace hr := zz_gt hr
          refine And.intro (g1) ?_
          repeat' first | refine And.intro rfl ?_ | refine And.intro (Or.inl rfl) ?_ | refine And.intro (Or.inr rfl) ?_ | refine And.intro (Nat.le_of_ble_eq_true rfl) ?_ | refine And.intro (And.intro rfl rfl) ?_ | exact rfl
          refine And.intro (fun (h3 : (I 29 l5.toNatClampNeg) < 0) => ?_) (fun (h3 : ¬ ((I 29 l5.toNatClampNeg) < 0)) => ?_)
          · rw [if_pos h3] at hr
            refine zs_11_52 ?_
            repeat' first | refine And.intro rfl ?_ | refine And.intro (Or.inl rfl) ?_ | refine And.intro (Or.inr rfl) ?_ | refine And.intro (Nat.le_of_ble_eq_true rfl) ?_ | refine And.intro (And.intro rfl rfl) ?_ | exact rfl
            refine Exists.intro _ (Exists.intro _ (And.intro (zr_X8_isThing F I J (d+1) (-(I 29 l5.toNatClampNeg))) ?_))
            repeat' first | refine And.intro rfl ?_ | refine And.intro (Or.inl rfl) ?_ | refine And.intro (Or.inr rfl) ?_ | refine And.intro (Nat.le_of_ble_eq_true rfl) ?_ | refine And.intro (And.intro rfl rfl) ?_ | exact rfl
            refine And.intro (fun (h4 : (zv_X8_isThing (-(I 29 l5.toNatClampNeg))) = 0) => ?_) (fun (h4 : ¬ ((zv_X8_isThing (-(I 29 l5.toNatClampNeg))) = 0)) => ?_)
            · rw [if_pos h4] at hr
              refine zs_11_81 ?_
              repeat' first | refine And.intro rfl ?_ | refine And.intro (Or.inl rfl) ?_ | refine And.intro (Or.inr rfl) ?_ | refine And.intro (Nat.le_of_ble_eq_true rfl) ?_ | refine And.intro (And.intro rfl rfl) ?_ | exact rfl
              refine And.intro (fun (h5 : ¬ (I 29 l5.toNatClampNeg) = ((-256))) => ?_) (fun (h5 : ¬ (¬ (I 29 l5.toNatClampNeg) = ((-256)))) => ?_)
              · rw [if_pos h5] at hr
                refine zs_11_127 ?_
                repeat' first | refine And.intro rfl ?_ | refine And.intro (Or.inl rfl) ?_ | refine And.intro (Or.inr rfl) ?_ | refine And.intro (Nat.le_of_ble_eq_true rfl) ?_ | refine And.intro (And.intro rfl rfl) ?_ | exact rfl
                refine And.intro (fun (h6 : l4 < 2) => ?_) (fun (h6 : ¬ (l4 < 2)) => ?_)
                · rw [if_pos h6] at hr
                  exact zz_wk [true, true, true, true, true, true, false] rfl (ih179 _ _ _ _ _ _ _ _ hr)
                · rw [if_neg h6] at hr
                  repeat' first | refine And.intro rfl ?_ | refine And.intro (Or.inl rfl) ?_ | refine And.intro (Or.inr rfl) ?_ | refine And.intro (Nat.le_of_ble_eq_true rfl) ?_ | refine And.intro (And.intro rfl rfl) ?_ | exact rfl
                  refine And.intro (fun (h7 : (nI 40) < l4) => ?_) (fun (h7 : ¬ ((nI 40) < l4)) => ?_)
                  · rw [if_pos h7] at hr
                    exact zz_wk [true, true, true, true, true, true, false] rfl (ih179 _ _ _ _ _ _ _ _ hr)
                  · rw [if_neg h7] at hr
                    repeat' first | refine And.intro rfl ?_ | refine And.intro (Or.inl rfl) ?_ | refine And.intro (Or.inr rfl) ?_ | refine And.intro (Nat.le_of_ble_eq_true rfl) ?_ | refine And.intro (And.intro rfl rfl) ?_ | exact rfl
                    have g2 : ¬ ((l4 - 2) < 0 ∨ 40 ≤ (l4 - 2).toNatClampNeg) := zz_g hr
                    replace hr := zz_gt hr
                    refine And.intro (g2) ?_
                    repeat' first | refine And.intro rfl ?_ | refine And.intro (Or.inl rfl) ?_ | refine And.intro (Or.inr rfl) ?_ | refine And.intro (Nat.le_of_ble_eq_true rfl) ?_ | refine And.intro (And.intro rfl rfl) ?_ | exact rfl
                    have g3 : ¬ ((l4 - 1) < 0 ∨ 40 ≤ (l4 - 1).toNatClampNeg) := zz_g hr
                    replace hr := zz_gt hr
                    refine And.intro (g3) ?_
                    repeat' first | refine And.intro rfl ?_ | refine And.intro (Or.inl rfl) ?_ | refine And.intro (Or.inr rfl) ?_ | refine And.intro (Nat.le_of_ble_eq_true rfl) ?_ | refine And.intro (And.intro rfl rfl) ?_ | exact rfl
                    obtain ⟨r4, cr4, hr⟩ := Option.bind_eq_some_iff.mp hr
                    refine Exists.intro _ (Exists.intro _ (And.intro (zr_X1_joined F I J (d+1) N (-(I 29 l5.toNatClampNeg)) (I 30 ((l4 - 2).toNatClampNeg)) (I 30 ((l4 - 1).toNatClampNeg)) r4 cr4) ?_))
                    repeat' first | refine And.intro rfl ?_ | refine And.intro (Or.inl rfl) ?_ | refine And.intro (Or.inr rfl) ?_ | refine And.intro (Nat.le_of_ble_eq_true rfl) ?_ | refine And.intro (And.intro rfl rfl) ?_ | exact rfl
                    refine And.intro (g2) ?_
                    repeat' first | refine And.intro rfl ?_ | refine And.intro (Or.inl rfl) ?_ | refine And.intro (Or.inr rfl) ?_ | refine And.intro (Nat.le_of_ble_eq_true rfl) ?_ | refine And.intro (And.intro rfl rfl) ?_ | exact rfl
                    exact zz_wk [true, true, true, true, true, true, false] rfl (ih179 _ _ _ _ _ _ _ _ hr)
              · rw [if_neg h5] at hr
                repeat' first | refine And.intro rfl ?_ | refine And.intro (Or.inl rfl) ?_ | refine And.intro (Or.inr rfl) ?_ | refine And.intro (Nat.le_of_ble_eq_true rfl) ?_ | refine And.intro (And.intro rfl rfl) ?_ | exact rfl
                refine And.intro (fun (h8 : l4 < 1) => ?_) (fun (h8 : ¬ (l4 < 1)) => ?_)
                · rw [if_pos h8] at hr
                  exact zz_wk [true, true, true, true, true, true, false] rfl (ih179 _ _ _ _ _ _ _ _ hr)
                · rw [if_neg h8] at hr
                  repeat' first | refine And.intro rfl ?_ | refine And.intro (Or.inl rfl) ?_ | refine And.intro (Or.inr rfl) ?_ | refine And.intro (Nat.le_of_ble_eq_true rfl) ?_ | refine And.intro (And.intro rfl rfl) ?_ | exact rfl
                  refine And.intro (fun (h9 : (nI 40) < l4) => ?_) (fun (h9 : ¬ ((nI 40) < l4)) => ?_)
                  · rw [if_pos h9] at hr
                    exact zz_wk [true, true, true, true, true, true, false] rfl (ih179 _ _ _ _ _ _ _ _ hr)
                  · rw [if_neg h9] at hr
                    repeat' first | refine And.intro rfl ?_ | refine And.intro (Or.inl rfl) ?_ | refine And.intro (Or.inr rfl) ?_ | refine And.intro (Nat.le_of_ble_eq_true rfl) ?_ | refine And.intro (And.intro rfl rfl) ?_ | exact rfl
                    have g5 : ¬ ((l4 - 1) < 0 ∨ 40 ≤ (l4 - 1).toNatClampNeg) := zz_g hr
                    replace hr := zz_gt hr
                    refine And.intro (g5) ?_
                    repeat' first | refine And.intro rfl ?_ | refine And.intro (Or.inl rfl) ?_ | refine And.intro (Or.inr rfl) ?_ | refine And.intro (Nat.le_of_ble_eq_true rfl) ?_ | refine And.intro (And.intro rfl rfl) ?_ | exact rfl
                    refine And.intro (g5) ?_
                    repeat' first | refine And.intro rfl ?_ | refine And.intro (Or.inl rfl) ?_ | refine And.intro (Or.inr rfl) ?_ | refine And.intro (Nat.le_of_ble_eq_true rfl) ?_ | refine And.intro (And.intro rfl rfl) ?_ | exact rfl
                    exact zz_wk [true, true, true, true, true, true, false] rfl (ih179 _ _ _ _ _ _ _ _ hr)
            · rw [if_neg h4] at hr
              repeat' first | refine And.intro rfl ?_ | refine And.intro (Or.inl rfl) ?_ | refine And.intro (Or.inr rfl) ?_ | refine And.intro (Nat.le_of_ble_eq_true rfl) ?_ | refine And.intro (And.intro rfl rfl) ?_ | exact rfl
              obtain ⟨r6, cr6, hr⟩ := Option.bind_eq_some_iff.mp hr
              refine Exists.intro _ (Exists.intro _ (And.intro (zr_X1_thing__5 F I J d N (-(I 29 l5.toNatClampNeg)) l2 l3 r6 cr6) ?_))
              repeat' first | refine And.intro rfl ?_ | refine And.intro (Or.inl rfl) ?_ | refine And.intro (Or.inr rfl) ?_ | refine And.intro (Nat.le_of_ble_eq_true rfl) ?_ | refine And.intro (And.intro rfl rfl) ?_ | exact rfl
              refine Exists.intro _ (Exists.intro _ (And.intro (zr_X1_pushed F I J (d+1) l4 r6.1) ?_))
              repeat' first | refine And.intro rfl ?_ | refine And.intro (Or.inl rfl) ?_ | refine And.intro (Or.inr rfl) ?_ | refine And.intro (Nat.le_of_ble_eq_true rfl) ?_ | refine And.intro (And.intro rfl rfl) ?_ | exact rfl
              exact zz_wk [true, true, true, true, true, true, false] rfl (ih179 _ _ _ _ _ _ _ _ hr)
          · rw [if_neg h3] at hr
            repeat' first | refine And.intro rfl ?_ | refine And.intro (Or.inl rfl) ?_ | refine And.intro (Or.inr rfl) ?_ | refine And.intro (Nat.le_of_ble_eq_true rfl) ?_ | refine And.intro (And.intro rfl rfl) ?_ | exact rfl
            refine Exists.intro _ (Exists.intro _ (And.intro (zr_X1_pushed F I J (d+1) l4 (I 29 l5.toNatClampNeg)) ?_))
            repeat' first | refine And.intro rfl ?_ | refine And.intro (Or.inl rfl) ?_ | refine And.intro (Or.inr rfl) ?_ | refine And.intro (Nat.le_of_ble_eq_true rfl) ?_ | refine And.intro (And.intro rfl rfl) ?_ | exact rfl
            exact zz_wk [true, true, true, true, true, true, false] rfl (ih179 _ _ _ _ _ _ _ _ hr)
    · intro l2 l3 l4 l5 l6 I J r hr
      replace hr : zb_X1_worth__5_179 N (zl_X1_worth__5 N n) l2 l3 l4 l5 l6 I J = some r := hr
      unfold zb_X1_worth__5_179 at hr
      refine zs_11_179 ?_
      repeat' first | refine And.intro rfl ?_ | refine And.intro (Or.inl rfl) ?_ | refine And.intro (Or.inr rfl) ?_ | refine And.intro (Nat.le_of_ble_eq_true rfl) ?_ | refine And.intro (And.intro rfl rfl) ?_ | exact rfl
      exact zz_wk [true, true, true, true, true, true, false] rfl (ih6 _ _ _ _ _ _ _ _ hr)
    · intro l2 l3 l4 l5 l6 I J r hr
      replace hr : zb_X1_worth__5_185 N (zl_X1_worth__5 N n) l2 l3 l4 l5 l6 I J = some r := hr
      unfold zb_X1_worth__5_185 at hr
      refine zs_11_185 ?_
      repeat' first | refine And.intro rfl ?_ | refine And.intro (Or.inl rfl) ?_ | refine And.intro (Or.inr rfl) ?_ | refine And.intro (Nat.le_of_ble_eq_true rfl) ?_ | refine And.intro (And.intro rfl rfl) ?_ | exact rfl
      refine And.intro (fun (h10 : l4 ≤ 0) => ?_) (fun (h10 : ¬ (l4 ≤ 0)) => ?_)
      · rw [if_pos h10] at hr
        refine zs_11_199 ?_
        repeat' first | refine And.intro rfl ?_ | refine And.intro (Or.inl rfl) ?_ | refine And.intro (Or.inr rfl) ?_ | refine And.intro (Nat.le_of_ble_eq_true rfl) ?_ | refine And.intro (And.intro rfl rfl) ?_ | exact rfl
        refine zs_11_200 ?_
        repeat' first | refine And.intro rfl ?_ | refine And.intro (Or.inl rfl) ?_ | refine And.intro (Or.inr rfl) ?_ | refine And.intro (Nat.le_of_ble_eq_true rfl) ?_ | refine And.intro (And.intro rfl rfl) ?_ | exact rfl
        cases hr
        repeat' first | refine And.intro rfl ?_ | refine And.intro (Or.inl rfl) ?_ | refine And.intro (Or.inr rfl) ?_ | refine And.intro (Nat.le_of_ble_eq_true rfl) ?_ | refine And.intro (And.intro rfl rfl) ?_ | exact rfl
      · rw [if_neg h10] at hr
        repeat' first | refine And.intro rfl ?_ | refine And.intro (Or.inl rfl) ?_ | refine And.intro (Or.inr rfl) ?_ | refine And.intro (Nat.le_of_ble_eq_true rfl) ?_ | refine And.intro (And.intro rfl rfl) ?_ | exact rfl
        refine And.intro (zz_vk (k := 0) rfl rfl) ?_
        repeat' first | refine And.intro rfl ?_ | refine And.intro (Or.inl rfl) ?_ | refine And.intro (Or.inr rfl) ?_ | refine And.intro (Nat.le_of_ble_eq_true rfl) ?_ | refine And.intro (And.intro rfl rfl) ?_ | exact rfl
        refine zs_11_200 ?_
        repeat' first | refine And.intro rfl ?_ | refine And.intro (Or.inl rfl) ?_ | refine And.intro (Or.inr rfl) ?_ | refine And.intro (Nat.le_of_ble_eq_true rfl) ?_ | refine And.intro (And.intro rfl rfl) ?_ | exact rfl
        cases hr
        repeat' first | refine And.intro rfl ?_ | refine And.intro (Or.inl rfl) ?_ | refine And.intro (Or.inr rfl) ?_ | refine And.intro (Nat.le_of_ble_eq_true rfl) ?_ | refine And.intro (And.intro rfl rfl) ?_ | exact rfl
theorem zr_X1_worth__5 (F : zz_F) (I : Nat → Nat → Int32) (J : Nat → Nat → Int64) (d N : Nat) (l2 : Int32) (l3 : Int32) (r : Int32 × (Nat → Nat → Int32) × (Nat → Nat → Int64)) (h : zf_X1_worth__5 N l2 l3 I J = some r) : zz_run (d+2) 11 0 [some (.ref 28), some (.ref 5), some (.int (l2)), some (.int (l3)), none, none, none] [] (zz_S F I J) (some (.int (r.1))) (zz_S F (r.2.1) (J)) := (zq_X1_worth__5 F d N N).1 l2 l3 0 0 0 I J r h
