/-! methods with loops, printed by wip/whole/loop.py -/
def zb_X12_spare_0 (N : Nat) (rec : Nat → Int32 → Int32 → Int32 → Int32 → (Nat → Nat → Int32) → (Nat → Nat → Int64) → Option (Int32 × (Nat → Nat → Int32) × (Nat → Nat → Int64))) (l1 : Int32) (l2 : Int32) (l3 : Int32) (l4 : Int32) (I : Nat → Nat → Int32) (J : Nat → Nat → Int64) : Option (Int32 × (Nat → Nat → Int32) × (Nat → Nat → Int64)) := (zf_X12_whereBits N 0 (zz_u I 52 7 0) J).bind fun r1 => (zf_X12_clashNow N r1.1 (zz_u I 52 7 0) J).bind fun r2 => rec 22 r1.1 r2.1 0 0 (zz_u I 52 7 0) J
def zb_X12_spare_22 (N : Nat) (rec : Nat → Int32 → Int32 → Int32 → Int32 → (Nat → Nat → Int32) → (Nat → Nat → Int64) → Option (Int32 × (Nat → Nat → Int32) × (Nat → Nat → Int64))) (l1 : Int32) (l2 : Int32) (l3 : Int32) (l4 : Int32) (I : Nat → Nat → Int32) (J : Nat → Nat → Int64) : Option (Int32 × (Nat → Nat → Int32) × (Nat → Nat → Int64)) := if (I 52 1) ≤ l4 then (if ¬ (((zz_u I 52 6 0) 52 6) < 0 ∨ 20 ≤ ((zz_u I 52 6 0) 52 6).toNatClampNeg) then (some (l3, zw_X12_tell (zz_u I 52 6 0) J ((zv_J6_bitCount l3).toInt64), zx_X12_tell (zz_u I 52 6 0) J ((zv_J6_bitCount l3).toInt64))) else none) else (if (zv_X12_has l1 l4) = 0 then (rec 22 l1 l2 (l3 ||| 0) (l4 + 1) I J) else ((zf_X12_clashNow N (l1 &&& (((1 : Int32) <<< (l4 &&& 31)) ^^^ ((-1)))) I J).bind fun r4 => if ¬ (r4.1 &&& (l2 ^^^ ((-1)))) = 0 then (rec 22 l1 l2 (l3 ||| 0) (l4 + 1) I J) else (rec 22 l1 l2 (l3 ||| ((1 : Int32) <<< (l4 &&& 31))) (l4 + 1) I J)))
def zl_X12_spare (N : Nat) : Nat → Nat → Int32 → Int32 → Int32 → Int32 → (Nat → Nat → Int32) → (Nat → Nat → Int64) → Option (Int32 × (Nat → Nat → Int32) × (Nat → Nat → Int64))
  | 0 => fun _ _ _ _ _ _ _ => none
  | n + 1 => fun pc l1 l2 l3 l4 I J => if pc = 0 then zb_X12_spare_0 N (zl_X12_spare N n) l1 l2 l3 l4 I J else (if pc = 22 then zb_X12_spare_22 N (zl_X12_spare N n) l1 l2 l3 l4 I J else none)
def zf_X12_spare (N : Nat)  (I : Nat → Nat → Int32) (J : Nat → Nat → Int64) : Option (Int32 × (Nat → Nat → Int32) × (Nat → Nat → Int64)) := zl_X12_spare N N 0 0 0 0 0 I J
theorem zq_X12_spare (F : zz_F) (d N : Nat) : ∀ n : Nat, (∀ (l1 : Int32) (l2 : Int32) (l3 : Int32) (l4 : Int32) (I : Nat → Nat → Int32) (J : Nat → Nat → Int64) (r : Int32 × (Nat → Nat → Int32) × (Nat → Nat → Int64)), zl_X12_spare N n 0 l1 l2 l3 l4 I J = some r → zz_run (d+4) 276 0 [some (.ref 52), none, none, none, none] [] (zz_S F I J) (some (.int (r.1))) (zz_S F (r.2.1) (r.2.2))) ∧ (∀ (l1 : Int32) (l2 : Int32) (l3 : Int32) (l4 : Int32) (I : Nat → Nat → Int32) (J : Nat → Nat → Int64) (r : Int32 × (Nat → Nat → Int32) × (Nat → Nat → Int64)), zl_X12_spare N n 22 l1 l2 l3 l4 I J = some r → zz_run (d+4) 276 22 [some (.ref 52), some (.int (l1)), some (.int (l2)), some (.int (l3)), some (.int (l4))] [] (zz_S F I J) (some (.int (r.1))) (zz_S F (r.2.1) (r.2.2))) := by
  intro n
  induction n with
  | zero => exact ⟨fun _ _ _ _ _ _ _ h => zz_no h, fun _ _ _ _ _ _ _ h => zz_no h⟩
  | succ n ih =>
    obtain ⟨ih0, ih22⟩ := ih
    refine ⟨?_, ?_⟩
    · intro l1 l2 l3 l4 I J r hr
      replace hr : zb_X12_spare_0 N (zl_X12_spare N n) l1 l2 l3 l4 I J = some r := hr
      unfold zb_X12_spare_0 at hr
      refine zs_276_0 ?_
      repeat' first | refine And.intro rfl ?_ | refine And.intro (Or.inl rfl) ?_ | refine And.intro (Or.inr rfl) ?_ | refine And.intro (Nat.le_of_ble_eq_true rfl) ?_ | refine And.intro (And.intro rfl rfl) ?_ | exact rfl
      obtain ⟨r1, cr1, hr⟩ := Option.bind_eq_some_iff.mp hr
      refine Exists.intro _ (Exists.intro _ (And.intro (zr_X12_whereBits F (zz_u I 52 7 0) J (d+3) N 0 r1 cr1) ?_))
      repeat' first | refine And.intro rfl ?_ | refine And.intro (Or.inl rfl) ?_ | refine And.intro (Or.inr rfl) ?_ | refine And.intro (Nat.le_of_ble_eq_true rfl) ?_ | refine And.intro (And.intro rfl rfl) ?_ | exact rfl
      obtain ⟨r2, cr2, hr⟩ := Option.bind_eq_some_iff.mp hr
      refine Exists.intro _ (Exists.intro _ (And.intro (zr_X12_clashNow F (zz_u I 52 7 0) J d N r1.1 r2 cr2) ?_))
      repeat' first | refine And.intro rfl ?_ | refine And.intro (Or.inl rfl) ?_ | refine And.intro (Or.inr rfl) ?_ | refine And.intro (Nat.le_of_ble_eq_true rfl) ?_ | refine And.intro (And.intro rfl rfl) ?_ | exact rfl
      exact zz_wk [true, true, true, true, true] rfl (ih22 _ _ _ _ _ _ _ hr)
    · intro l1 l2 l3 l4 I J r hr
      replace hr : zb_X12_spare_22 N (zl_X12_spare N n) l1 l2 l3 l4 I J = some r := hr
      unfold zb_X12_spare_22 at hr
      refine zs_276_22 ?_
      repeat' first | refine And.intro rfl ?_ | refine And.intro (Or.inl rfl) ?_ | refine And.intro (Or.inr rfl) ?_ | refine And.intro (Nat.le_of_ble_eq_true rfl) ?_ | refine And.intro (And.intro rfl rfl) ?_ | exact rfl
      refine And.intro (fun (h1 : (I 52 1) ≤ l4) => ?_) (fun (h1 : ¬ ((I 52 1) ≤ l4)) => ?_)
      · rw [if_pos h1] at hr
        refine zs_276_76 ?_
        repeat' first | refine And.intro rfl ?_ | refine And.intro (Or.inl rfl) ?_ | refine And.intro (Or.inr rfl) ?_ | refine And.intro (Nat.le_of_ble_eq_true rfl) ?_ | refine And.intro (And.intro rfl rfl) ?_ | exact rfl
        refine Exists.intro _ (Exists.intro _ (And.intro (zr_J6_bitCount F (zz_u I 52 6 0) J (d+3) l3) ?_))
        repeat' first | refine And.intro rfl ?_ | refine And.intro (Or.inl rfl) ?_ | refine And.intro (Or.inr rfl) ?_ | refine And.intro (Nat.le_of_ble_eq_true rfl) ?_ | refine And.intro (And.intro rfl rfl) ?_ | exact rfl
        have g3 : ¬ (((zz_u I 52 6 0) 52 6) < 0 ∨ 20 ≤ ((zz_u I 52 6 0) 52 6).toNatClampNeg) := zz_g hr
        replace hr := zz_gt hr
        refine Exists.intro _ (Exists.intro _ (And.intro (zr_X12_tell F (zz_u I 52 6 0) J (d+3) ((zv_J6_bitCount l3).toInt64) g3) ?_))
        repeat' first | refine And.intro rfl ?_ | refine And.intro (Or.inl rfl) ?_ | refine And.intro (Or.inr rfl) ?_ | refine And.intro (Nat.le_of_ble_eq_true rfl) ?_ | refine And.intro (And.intro rfl rfl) ?_ | exact rfl
        cases hr
        repeat' first | refine And.intro rfl ?_ | refine And.intro (Or.inl rfl) ?_ | refine And.intro (Or.inr rfl) ?_ | refine And.intro (Nat.le_of_ble_eq_true rfl) ?_ | refine And.intro (And.intro rfl rfl) ?_ | exact rfl
      · rw [if_neg h1] at hr
        repeat' first | refine And.intro rfl ?_ | refine And.intro (Or.inl rfl) ?_ | refine And.intro (Or.inr rfl) ?_ | refine And.intro (Nat.le_of_ble_eq_true rfl) ?_ | refine And.intro (And.intro rfl rfl) ?_ | exact rfl
        refine Exists.intro _ (Exists.intro _ (And.intro (zr_X12_has F I J (d+3) l1 l4) ?_))
        repeat' first | refine And.intro rfl ?_ | refine And.intro (Or.inl rfl) ?_ | refine And.intro (Or.inr rfl) ?_ | refine And.intro (Nat.le_of_ble_eq_true rfl) ?_ | refine And.intro (And.intro rfl rfl) ?_ | exact rfl
        refine And.intro (fun (h2 : (zv_X12_has l1 l4) = 0) => ?_) (fun (h2 : ¬ ((zv_X12_has l1 l4) = 0)) => ?_)
        · rw [if_pos h2] at hr
          refine zs_276_67 ?_
          repeat' first | refine And.intro rfl ?_ | refine And.intro (Or.inl rfl) ?_ | refine And.intro (Or.inr rfl) ?_ | refine And.intro (Nat.le_of_ble_eq_true rfl) ?_ | refine And.intro (And.intro rfl rfl) ?_ | exact rfl
          refine zs_276_68 ?_
          repeat' first | refine And.intro rfl ?_ | refine And.intro (Or.inl rfl) ?_ | refine And.intro (Or.inr rfl) ?_ | refine And.intro (Nat.le_of_ble_eq_true rfl) ?_ | refine And.intro (And.intro rfl rfl) ?_ | exact rfl
          exact zz_wk [true, true, true, true, true] rfl (ih22 _ _ _ _ _ _ _ hr)
        · rw [if_neg h2] at hr
          repeat' first | refine And.intro rfl ?_ | refine And.intro (Or.inl rfl) ?_ | refine And.intro (Or.inr rfl) ?_ | refine And.intro (Nat.le_of_ble_eq_true rfl) ?_ | refine And.intro (And.intro rfl rfl) ?_ | exact rfl
          obtain ⟨r4, cr4, hr⟩ := Option.bind_eq_some_iff.mp hr
          refine Exists.intro _ (Exists.intro _ (And.intro (zr_X12_clashNow F I J d N (l1 &&& (((1 : Int32) <<< (l4 &&& 31)) ^^^ ((-1)))) r4 cr4) ?_))
          repeat' first | refine And.intro rfl ?_ | refine And.intro (Or.inl rfl) ?_ | refine And.intro (Or.inr rfl) ?_ | refine And.intro (Nat.le_of_ble_eq_true rfl) ?_ | refine And.intro (And.intro rfl rfl) ?_ | exact rfl
          refine And.intro (fun (h3 : ¬ (r4.1 &&& (l2 ^^^ ((-1)))) = 0) => ?_) (fun (h3 : ¬ (¬ (r4.1 &&& (l2 ^^^ ((-1)))) = 0)) => ?_)
          · rw [if_pos h3] at hr
            refine zs_276_67 ?_
            repeat' first | refine And.intro rfl ?_ | refine And.intro (Or.inl rfl) ?_ | refine And.intro (Or.inr rfl) ?_ | refine And.intro (Nat.le_of_ble_eq_true rfl) ?_ | refine And.intro (And.intro rfl rfl) ?_ | exact rfl
            refine zs_276_68 ?_
            repeat' first | refine And.intro rfl ?_ | refine And.intro (Or.inl rfl) ?_ | refine And.intro (Or.inr rfl) ?_ | refine And.intro (Nat.le_of_ble_eq_true rfl) ?_ | refine And.intro (And.intro rfl rfl) ?_ | exact rfl
            exact zz_wk [true, true, true, true, true] rfl (ih22 _ _ _ _ _ _ _ hr)
          · rw [if_neg h3] at hr
            repeat' first | refine And.intro rfl ?_ | refine And.intro (Or.inl rfl) ?_ | refine And.intro (Or.inr rfl) ?_ | refine And.intro (Nat.le_of_ble_eq_true rfl) ?_ | refine And.intro (And.intro rfl rfl) ?_ | exact rfl
            refine zs_276_68 ?_
            repeat' first | refine And.intro rfl ?_ | refine And.intro (Or.inl rfl) ?_ | refine And.intro (Or.inr rfl) ?_ | refine And.intro (Nat.le_of_ble_eq_true rfl) ?_ | refine And.intro (And.intro rfl rfl) ?_ | exact rfl
            exact zz_wk [true, true, true, true, true] rfl (ih22 _ _ _ _ _ _ _ hr)
theorem zr_X12_spare (F : zz_F) (I : Nat → Nat → Int32) (J : Nat → Nat → Int64) (d N : Nat)  (r : Int32 × (Nat → Nat → Int32) × (Nat → Nat → Int64)) (h : zf_X12_spare N  I J = some r) : zz_run (d+4) 276 0 [some (.ref 52), none, none, none, none] [] (zz_S F I J) (some (.int (r.1))) (zz_S F (r.2.1) (r.2.2)) := (zq_X12_spare F d N N).1 0 0 0 0 I J r h
def zb_X12_knownOf_0 (N : Nat) (rec : Nat → Int32 → Int32 → Int32 → Int32 → (Nat → Nat → Int32) → (Nat → Nat → Int64) → Option (Int32 × (Nat → Nat → Int32) × (Nat → Nat → Int64))) (l1 : Int32) (l2 : Int32) (l3 : Int32) (l4 : Int32) (I : Nat → Nat → Int32) (J : Nat → Nat → Int64) : Option (Int32 × (Nat → Nat → Int32) × (Nat → Nat → Int64)) := if ¬ ((14 + l1) < 0 ∨ 18 ≤ (14 + l1).toNatClampNeg) then (rec 13 0 l2 (I 53 ((14 + l1).toNatClampNeg)) 0 I J) else none
def zb_X12_knownOf_13 (N : Nat) (rec : Nat → Int32 → Int32 → Int32 → Int32 → (Nat → Nat → Int32) → (Nat → Nat → Int64) → Option (Int32 × (Nat → Nat → Int32) × (Nat → Nat → Int64))) (l1 : Int32) (l2 : Int32) (l3 : Int32) (l4 : Int32) (I : Nat → Nat → Int32) (J : Nat → Nat → Int64) : Option (Int32 × (Nat → Nat → Int32) × (Nat → Nat → Int64)) := if (I 52 1) ≤ l4 then (some (l3, I, J)) else (if (zv_X12_has l2 l4) = 0 then (rec 13 0 l2 l3 (l4 + 1) I J) else (if ¬ (((7 * l4) + 4) < 0 ∨ 84 ≤ ((7 * l4) + 4).toNatClampNeg) then (rec 13 0 l2 (zv_X12_knownBy I l3 l4) (l4 + 1) I J) else none))
def zl_X12_knownOf (N : Nat) : Nat → Nat → Int32 → Int32 → Int32 → Int32 → (Nat → Nat → Int32) → (Nat → Nat → Int64) → Option (Int32 × (Nat → Nat → Int32) × (Nat → Nat → Int64))
  | 0 => fun _ _ _ _ _ _ _ => none
  | n + 1 => fun pc l1 l2 l3 l4 I J => if pc = 0 then zb_X12_knownOf_0 N (zl_X12_knownOf N n) l1 l2 l3 l4 I J else (if pc = 13 then zb_X12_knownOf_13 N (zl_X12_knownOf N n) l1 l2 l3 l4 I J else none)
def zf_X12_knownOf (N : Nat) (l1 : Int32) (l2 : Int32) (I : Nat → Nat → Int32) (J : Nat → Nat → Int64) : Option (Int32 × (Nat → Nat → Int32) × (Nat → Nat → Int64)) := zl_X12_knownOf N N 0 l1 l2 0 0 I J
theorem zq_X12_knownOf (F : zz_F) (d N : Nat) : ∀ n : Nat, (∀ (l1 : Int32) (l2 : Int32) (l3 : Int32) (l4 : Int32) (I : Nat → Nat → Int32) (J : Nat → Nat → Int64) (r : Int32 × (Nat → Nat → Int32) × (Nat → Nat → Int64)), zl_X12_knownOf N n 0 l1 l2 l3 l4 I J = some r → zz_run (d+2) 277 0 [some (.ref 52), some (.int (l1)), some (.int (l2)), none, none] [] (zz_S F I J) (some (.int (r.1))) (zz_S F (I) (J))) ∧ (∀ (l1 : Int32) (l2 : Int32) (l3 : Int32) (l4 : Int32) (I : Nat → Nat → Int32) (J : Nat → Nat → Int64) (r : Int32 × (Nat → Nat → Int32) × (Nat → Nat → Int64)), zl_X12_knownOf N n 13 l1 l2 l3 l4 I J = some r → zz_run (d+2) 277 13 [some (.ref 52), none, some (.int (l2)), some (.int (l3)), some (.int (l4))] [] (zz_S F I J) (some (.int (r.1))) (zz_S F (I) (J))) := by
  intro n
  induction n with
  | zero => exact ⟨fun _ _ _ _ _ _ _ h => zz_no h, fun _ _ _ _ _ _ _ h => zz_no h⟩
  | succ n ih =>
    obtain ⟨ih0, ih13⟩ := ih
    refine ⟨?_, ?_⟩
    · intro l1 l2 l3 l4 I J r hr
      replace hr : zb_X12_knownOf_0 N (zl_X12_knownOf N n) l1 l2 l3 l4 I J = some r := hr
      unfold zb_X12_knownOf_0 at hr
      refine zs_277_0 ?_
      repeat' first | refine And.intro rfl ?_ | refine And.intro (Or.inl rfl) ?_ | refine And.intro (Or.inr rfl) ?_ | refine And.intro (Nat.le_of_ble_eq_true rfl) ?_ | refine And.intro (And.intro rfl rfl) ?_ | exact rfl
      have g1 : ¬ ((14 + l1) < 0 ∨ 18 ≤ (14 + l1).toNatClampNeg) := zz_g hr
      replace hr := zz_gt hr
      refine And.intro (g1) ?_
      repeat' first | refine And.intro rfl ?_ | refine And.intro (Or.inl rfl) ?_ | refine And.intro (Or.inr rfl) ?_ | refine And.intro (Nat.le_of_ble_eq_true rfl) ?_ | refine And.intro (And.intro rfl rfl) ?_ | exact rfl
      exact zz_wk [true, false, true, true, true] rfl (ih13 _ _ _ _ _ _ _ hr)
    · intro l1 l2 l3 l4 I J r hr
      replace hr : zb_X12_knownOf_13 N (zl_X12_knownOf N n) l1 l2 l3 l4 I J = some r := hr
      unfold zb_X12_knownOf_13 at hr
      refine zs_277_13 ?_
      repeat' first | refine And.intro rfl ?_ | refine And.intro (Or.inl rfl) ?_ | refine And.intro (Or.inr rfl) ?_ | refine And.intro (Nat.le_of_ble_eq_true rfl) ?_ | refine And.intro (And.intro rfl rfl) ?_ | exact rfl
      refine And.intro (fun (h1 : (I 52 1) ≤ l4) => ?_) (fun (h1 : ¬ ((I 52 1) ≤ l4)) => ?_)
      · rw [if_pos h1] at hr
        refine zs_277_49 ?_
        repeat' first | refine And.intro rfl ?_ | refine And.intro (Or.inl rfl) ?_ | refine And.intro (Or.inr rfl) ?_ | refine And.intro (Nat.le_of_ble_eq_true rfl) ?_ | refine And.intro (And.intro rfl rfl) ?_ | exact rfl
        cases hr
        repeat' first | refine And.intro rfl ?_ | refine And.intro (Or.inl rfl) ?_ | refine And.intro (Or.inr rfl) ?_ | refine And.intro (Nat.le_of_ble_eq_true rfl) ?_ | refine And.intro (And.intro rfl rfl) ?_ | exact rfl
      · rw [if_neg h1] at hr
        repeat' first | refine And.intro rfl ?_ | refine And.intro (Or.inl rfl) ?_ | refine And.intro (Or.inr rfl) ?_ | refine And.intro (Nat.le_of_ble_eq_true rfl) ?_ | refine And.intro (And.intro rfl rfl) ?_ | exact rfl
        refine Exists.intro _ (Exists.intro _ (And.intro (zr_X12_has F I J (d+1) l2 l4) ?_))
        repeat' first | refine And.intro rfl ?_ | refine And.intro (Or.inl rfl) ?_ | refine And.intro (Or.inr rfl) ?_ | refine And.intro (Nat.le_of_ble_eq_true rfl) ?_ | refine And.intro (And.intro rfl rfl) ?_ | exact rfl
        refine And.intro (fun (h2 : (zv_X12_has l2 l4) = 0) => ?_) (fun (h2 : ¬ ((zv_X12_has l2 l4) = 0)) => ?_)
        · rw [if_pos h2] at hr
          refine zs_277_41 ?_
          repeat' first | refine And.intro rfl ?_ | refine And.intro (Or.inl rfl) ?_ | refine And.intro (Or.inr rfl) ?_ | refine And.intro (Nat.le_of_ble_eq_true rfl) ?_ | refine And.intro (And.intro rfl rfl) ?_ | exact rfl
          refine zs_277_42 ?_
          repeat' first | refine And.intro rfl ?_ | refine And.intro (Or.inl rfl) ?_ | refine And.intro (Or.inr rfl) ?_ | refine And.intro (Nat.le_of_ble_eq_true rfl) ?_ | refine And.intro (And.intro rfl rfl) ?_ | exact rfl
          exact zz_wk [true, false, true, true, true] rfl (ih13 _ _ _ _ _ _ _ hr)
        · rw [if_neg h2] at hr
          repeat' first | refine And.intro rfl ?_ | refine And.intro (Or.inl rfl) ?_ | refine And.intro (Or.inr rfl) ?_ | refine And.intro (Nat.le_of_ble_eq_true rfl) ?_ | refine And.intro (And.intro rfl rfl) ?_ | exact rfl
          have g2 : ¬ (((7 * l4) + 4) < 0 ∨ 84 ≤ ((7 * l4) + 4).toNatClampNeg) := zz_g hr
          replace hr := zz_gt hr
          refine Exists.intro _ (Exists.intro _ (And.intro (zr_X12_knownBy F I J d l3 l4 g2) ?_))
          repeat' first | refine And.intro rfl ?_ | refine And.intro (Or.inl rfl) ?_ | refine And.intro (Or.inr rfl) ?_ | refine And.intro (Nat.le_of_ble_eq_true rfl) ?_ | refine And.intro (And.intro rfl rfl) ?_ | exact rfl
          refine zs_277_42 ?_
          repeat' first | refine And.intro rfl ?_ | refine And.intro (Or.inl rfl) ?_ | refine And.intro (Or.inr rfl) ?_ | refine And.intro (Nat.le_of_ble_eq_true rfl) ?_ | refine And.intro (And.intro rfl rfl) ?_ | exact rfl
          exact zz_wk [true, false, true, true, true] rfl (ih13 _ _ _ _ _ _ _ hr)
theorem zr_X12_knownOf (F : zz_F) (I : Nat → Nat → Int32) (J : Nat → Nat → Int64) (d N : Nat) (l1 : Int32) (l2 : Int32) (r : Int32 × (Nat → Nat → Int32) × (Nat → Nat → Int64)) (h : zf_X12_knownOf N l1 l2 I J = some r) : zz_run (d+2) 277 0 [some (.ref 52), some (.int (l1)), some (.int (l2)), none, none] [] (zz_S F I J) (some (.int (r.1))) (zz_S F (I) (J)) := (zq_X12_knownOf F d N N).1 l1 l2 0 0 I J r h
def zb_X12_cheers_0 (N : Nat) (rec : Nat → Int32 → Int32 → Int32 → Int32 → Int32 → Int32 → (Nat → Nat → Int32) → (Nat → Nat → Int64) → Option (Int32 × (Nat → Nat → Int32) × (Nat → Nat → Int64))) (l1 : Int32) (l2 : Int32) (l3 : Int32) (l4 : Int32) (l5 : Int32) (l6 : Int32) (I : Nat → Nat → Int32) (J : Nat → Nat → Int64) : Option (Int32 × (Nat → Nat → Int32) × (Nat → Nat → Int64)) := if ¬ (zv_X12_isPlay l1) = 0 then ((zf_X12_whereBits N 0 (zz_u I 52 7 0) J).bind fun r1 => (zf_X12_ofPlay N r1.1 l1 (zz_u I 52 7 0) J).bind fun r2 => if ¬ ((14 + l1) < 0 ∨ 18 ≤ (14 + l1).toNatClampNeg) then (rec 41 l1 r2.1 (I 53 ((14 + l1).toNatClampNeg)) 0 0 0 (zz_u I 52 7 0) J) else none) else (some ((-1), zz_u I 52 7 0, J))
def zb_X12_cheers_41 (N : Nat) (rec : Nat → Int32 → Int32 → Int32 → Int32 → Int32 → Int32 → (Nat → Nat → Int32) → (Nat → Nat → Int64) → Option (Int32 × (Nat → Nat → Int32) × (Nat → Nat → Int64))) (l1 : Int32) (l2 : Int32) (l3 : Int32) (l4 : Int32) (l5 : Int32) (l6 : Int32) (I : Nat → Nat → Int32) (J : Nat → Nat → Int64) : Option (Int32 × (Nat → Nat → Int32) × (Nat → Nat → Int64)) := if (I 52 1) ≤ l5 then (rec 91 l1 l2 0 l4 0 0 I J) else (if ¬ (zv_X12_has l2 l5) = 0 then (if ¬ (((7 * l5) + 5) < 0 ∨ 84 ≤ ((7 * l5) + 5).toNatClampNeg) then (if ((zv_X12_doesClash I l3 l5) = 0) → (¬ (((7 * l5) + 6) < 0 ∨ 84 ≤ ((7 * l5) + 6).toNatClampNeg)) then (if (¬ ((zv_X12_doesClash I l3 l5) = 0)) → (¬ (((7 * l5) + 6) < 0 ∨ 84 ≤ ((7 * l5) + 6).toNatClampNeg)) then (if ¬ (((7 * l5) + 4) < 0 ∨ 84 ≤ ((7 * l5) + 4).toNatClampNeg) then (rec 82 l1 l2 (zv_X12_knownBy I l3 l5) (l4 + (zv_X12_brings I l3 l5)) l5 0 I J) else none) else none) else none) else none) else (rec 82 l1 l2 l3 l4 l5 0 I J))
def zb_X12_cheers_82 (N : Nat) (rec : Nat → Int32 → Int32 → Int32 → Int32 → Int32 → Int32 → (Nat → Nat → Int32) → (Nat → Nat → Int64) → Option (Int32 × (Nat → Nat → Int32) × (Nat → Nat → Int64))) (l1 : Int32) (l2 : Int32) (l3 : Int32) (l4 : Int32) (l5 : Int32) (l6 : Int32) (I : Nat → Nat → Int32) (J : Nat → Nat → Int64) : Option (Int32 × (Nat → Nat → Int32) × (Nat → Nat → Int64)) := rec 41 l1 l2 l3 l4 (l5 + 1) 0 I J
def zb_X12_cheers_91 (N : Nat) (rec : Nat → Int32 → Int32 → Int32 → Int32 → Int32 → Int32 → (Nat → Nat → Int32) → (Nat → Nat → Int64) → Option (Int32 × (Nat → Nat → Int32) × (Nat → Nat → Int64))) (l1 : Int32) (l2 : Int32) (l3 : Int32) (l4 : Int32) (l5 : Int32) (l6 : Int32) (I : Nat → Nat → Int32) (J : Nat → Nat → Int64) : Option (Int32 × (Nat → Nat → Int32) × (Nat → Nat → Int64)) := if l2 < l5 then (if ¬ (l2 < 0 ∨ 4096 ≤ l2.toNatClampNeg) then (if ¬ (((zz_u I 52 6 0) 52 6) < 0 ∨ 20 ≤ ((zz_u I 52 6 0) 52 6).toNatClampNeg) then (some (l4, zw_X12_tell (zz_u I 52 6 0) J ((I 77 l2.toNatClampNeg).toInt64), zx_X12_tell (zz_u I 52 6 0) J ((I 77 l2.toNatClampNeg).toInt64))) else none) else none) else (if (l5 &&& (l2 ^^^ ((-1)))) = 0 then (if ¬ (l5 < 0 ∨ 4096 ≤ l5.toNatClampNeg) then (rec 120 l1 l2 0 l4 l5 0 (zz_u I 77 l5.toNatClampNeg 0) J) else none) else (rec 197 l1 l2 0 l4 l5 0 I J))
def zb_X12_cheers_120 (N : Nat) (rec : Nat → Int32 → Int32 → Int32 → Int32 → Int32 → Int32 → (Nat → Nat → Int32) → (Nat → Nat → Int64) → Option (Int32 × (Nat → Nat → Int32) × (Nat → Nat → Int64))) (l1 : Int32) (l2 : Int32) (l3 : Int32) (l4 : Int32) (l5 : Int32) (l6 : Int32) (I : Nat → Nat → Int32) (J : Nat → Nat → Int64) : Option (Int32 × (Nat → Nat → Int32) × (Nat → Nat → Int64)) := if (I 52 1) ≤ l6 then (rec 197 l1 l2 0 l4 l5 0 I J) else (if (zv_X12_has l5 l6) = 0 then (rec 191 l1 l2 0 l4 l5 l6 I J) else (if ¬ (l5 < 0 ∨ 4096 ≤ l5.toNatClampNeg) then (if ¬ ((l5 &&& (((1 : Int32) <<< (l6 &&& 31)) ^^^ ((-1)))) < 0 ∨ 4096 ≤ (l5 &&& (((1 : Int32) <<< (l6 &&& 31)) ^^^ ((-1)))).toNatClampNeg) then ((zf_X12_knownOf N l1 (l5 &&& (((1 : Int32) <<< (l6 &&& 31)) ^^^ ((-1)))) I J).bind fun r13 => if ¬ (((7 * l6) + 5) < 0 ∨ 84 ≤ ((7 * l6) + 5).toNatClampNeg) then (if ((zv_X12_doesClash I r13.1 l6) = 0) → (¬ (((7 * l6) + 6) < 0 ∨ 84 ≤ ((7 * l6) + 6).toNatClampNeg)) then (if (¬ ((zv_X12_doesClash I r13.1 l6) = 0)) → (¬ (((7 * l6) + 6) < 0 ∨ 84 ≤ ((7 * l6) + 6).toNatClampNeg)) then (rec 191 l1 l2 0 l4 l5 l6 (zz_u I 77 l5.toNatClampNeg (zz_max (I 77 l5.toNatClampNeg) ((I 77 ((l5 &&& (((1 : Int32) <<< (l6 &&& 31)) ^^^ ((-1)))).toNatClampNeg)) + (zv_X12_brings I r13.1 l6)))) J) else none) else none) else none) else none) else none))
def zb_X12_cheers_191 (N : Nat) (rec : Nat → Int32 → Int32 → Int32 → Int32 → Int32 → Int32 → (Nat → Nat → Int32) → (Nat → Nat → Int64) → Option (Int32 × (Nat → Nat → Int32) × (Nat → Nat → Int64))) (l1 : Int32) (l2 : Int32) (l3 : Int32) (l4 : Int32) (l5 : Int32) (l6 : Int32) (I : Nat → Nat → Int32) (J : Nat → Nat → Int64) : Option (Int32 × (Nat → Nat → Int32) × (Nat → Nat → Int64)) := rec 120 l1 l2 0 l4 l5 (l6 + 1) I J
def zb_X12_cheers_197 (N : Nat) (rec : Nat → Int32 → Int32 → Int32 → Int32 → Int32 → Int32 → (Nat → Nat → Int32) → (Nat → Nat → Int64) → Option (Int32 × (Nat → Nat → Int32) × (Nat → Nat → Int64))) (l1 : Int32) (l2 : Int32) (l3 : Int32) (l4 : Int32) (l5 : Int32) (l6 : Int32) (I : Nat → Nat → Int32) (J : Nat → Nat → Int64) : Option (Int32 × (Nat → Nat → Int32) × (Nat → Nat → Int64)) := rec 91 l1 l2 0 l4 (l5 + 1) 0 I J
def zl_X12_cheers (N : Nat) : Nat → Nat → Int32 → Int32 → Int32 → Int32 → Int32 → Int32 → (Nat → Nat → Int32) → (Nat → Nat → Int64) → Option (Int32 × (Nat → Nat → Int32) × (Nat → Nat → Int64))
  | 0 => fun _ _ _ _ _ _ _ _ _ => none
  | n + 1 => fun pc l1 l2 l3 l4 l5 l6 I J => if pc = 0 then zb_X12_cheers_0 N (zl_X12_cheers N n) l1 l2 l3 l4 l5 l6 I J else (if pc = 41 then zb_X12_cheers_41 N (zl_X12_cheers N n) l1 l2 l3 l4 l5 l6 I J else (if pc = 82 then zb_X12_cheers_82 N (zl_X12_cheers N n) l1 l2 l3 l4 l5 l6 I J else (if pc = 91 then zb_X12_cheers_91 N (zl_X12_cheers N n) l1 l2 l3 l4 l5 l6 I J else (if pc = 120 then zb_X12_cheers_120 N (zl_X12_cheers N n) l1 l2 l3 l4 l5 l6 I J else (if pc = 191 then zb_X12_cheers_191 N (zl_X12_cheers N n) l1 l2 l3 l4 l5 l6 I J else (if pc = 197 then zb_X12_cheers_197 N (zl_X12_cheers N n) l1 l2 l3 l4 l5 l6 I J else none))))))
def zf_X12_cheers (N : Nat) (l1 : Int32) (I : Nat → Nat → Int32) (J : Nat → Nat → Int64) : Option (Int32 × (Nat → Nat → Int32) × (Nat → Nat → Int64)) := zl_X12_cheers N N 0 l1 0 0 0 0 0 I J
theorem zq_X12_cheers (F : zz_F) (d N : Nat) : ∀ n : Nat, (∀ (l1 : Int32) (l2 : Int32) (l3 : Int32) (l4 : Int32) (l5 : Int32) (l6 : Int32) (I : Nat → Nat → Int32) (J : Nat → Nat → Int64) (r : Int32 × (Nat → Nat → Int32) × (Nat → Nat → Int64)), zl_X12_cheers N n 0 l1 l2 l3 l4 l5 l6 I J = some r → zz_run (d+3) 278 0 [some (.ref 52), some (.int (l1)), none, none, none, none, none] [] (zz_S F I J) (some (.int (r.1))) (zz_S F (r.2.1) (r.2.2))) ∧ (∀ (l1 : Int32) (l2 : Int32) (l3 : Int32) (l4 : Int32) (l5 : Int32) (l6 : Int32) (I : Nat → Nat → Int32) (J : Nat → Nat → Int64) (r : Int32 × (Nat → Nat → Int32) × (Nat → Nat → Int64)), zl_X12_cheers N n 41 l1 l2 l3 l4 l5 l6 I J = some r → zz_run (d+3) 278 41 [some (.ref 52), some (.int (l1)), some (.int (l2)), some (.int (l3)), some (.int (l4)), some (.int (l5)), none] [] (zz_S F I J) (some (.int (r.1))) (zz_S F (r.2.1) (r.2.2))) ∧ (∀ (l1 : Int32) (l2 : Int32) (l3 : Int32) (l4 : Int32) (l5 : Int32) (l6 : Int32) (I : Nat → Nat → Int32) (J : Nat → Nat → Int64) (r : Int32 × (Nat → Nat → Int32) × (Nat → Nat → Int64)), zl_X12_cheers N n 82 l1 l2 l3 l4 l5 l6 I J = some r → zz_run (d+3) 278 82 [some (.ref 52), some (.int (l1)), some (.int (l2)), some (.int (l3)), some (.int (l4)), some (.int (l5)), none] [] (zz_S F I J) (some (.int (r.1))) (zz_S F (r.2.1) (r.2.2))) ∧ (∀ (l1 : Int32) (l2 : Int32) (l3 : Int32) (l4 : Int32) (l5 : Int32) (l6 : Int32) (I : Nat → Nat → Int32) (J : Nat → Nat → Int64) (r : Int32 × (Nat → Nat → Int32) × (Nat → Nat → Int64)), zl_X12_cheers N n 91 l1 l2 l3 l4 l5 l6 I J = some r → zz_run (d+3) 278 91 [some (.ref 52), some (.int (l1)), some (.int (l2)), none, some (.int (l4)), some (.int (l5)), none] [] (zz_S F I J) (some (.int (r.1))) (zz_S F (r.2.1) (r.2.2))) ∧ (∀ (l1 : Int32) (l2 : Int32) (l3 : Int32) (l4 : Int32) (l5 : Int32) (l6 : Int32) (I : Nat → Nat → Int32) (J : Nat → Nat → Int64) (r : Int32 × (Nat → Nat → Int32) × (Nat → Nat → Int64)), zl_X12_cheers N n 120 l1 l2 l3 l4 l5 l6 I J = some r → zz_run (d+3) 278 120 [some (.ref 52), some (.int (l1)), some (.int (l2)), none, some (.int (l4)), some (.int (l5)), some (.int (l6))] [] (zz_S F I J) (some (.int (r.1))) (zz_S F (r.2.1) (r.2.2))) ∧ (∀ (l1 : Int32) (l2 : Int32) (l3 : Int32) (l4 : Int32) (l5 : Int32) (l6 : Int32) (I : Nat → Nat → Int32) (J : Nat → Nat → Int64) (r : Int32 × (Nat → Nat → Int32) × (Nat → Nat → Int64)), zl_X12_cheers N n 191 l1 l2 l3 l4 l5 l6 I J = some r → zz_run (d+3) 278 191 [some (.ref 52), some (.int (l1)), some (.int (l2)), none, some (.int (l4)), some (.int (l5)), some (.int (l6))] [] (zz_S F I J) (some (.int (r.1))) (zz_S F (r.2.1) (r.2.2))) ∧ (∀ (l1 : Int32) (l2 : Int32) (l3 : Int32) (l4 : Int32) (l5 : Int32) (l6 : Int32) (I : Nat → Nat → Int32) (J : Nat → Nat → Int64) (r : Int32 × (Nat → Nat → Int32) × (Nat → Nat → Int64)), zl_X12_cheers N n 197 l1 l2 l3 l4 l5 l6 I J = some r → zz_run (d+3) 278 197 [some (.ref 52), some (.int (l1)), some (.int (l2)), none, some (.int (l4)), some (.int (l5)), none] [] (zz_S F I J) (some (.int (r.1))) (zz_S F (r.2.1) (r.2.2))) := by
  intro n
  induction n with
  | zero => exact ⟨fun _ _ _ _ _ _ _ _ _ h => zz_no h, fun _ _ _ _ _ _ _ _ _ h => zz_no h, fun _ _ _ _ _ _ _ _ _ h => zz_no h, fun _ _ _ _ _ _ _ _ _ h => zz_no h, fun _ _ _ _ _ _ _ _ _ h => zz_no h, fun _ _ _ _ _ _ _ _ _ h => zz_no h, fun _ _ _ _ _ _ _ _ _ h => zz_no h⟩
  | succ n ih =>
    obtain ⟨ih0, ih41, ih82, ih91, ih120, ih191, ih197⟩ := ih
    refine ⟨?_, ?_, ?_, ?_, ?_, ?_, ?_⟩
    · intro l1 l2 l3 l4 l5 l6 I J r hr
      replace hr : zb_X12_cheers_0 N (zl_X12_cheers N n) l1 l2 l3 l4 l5 l6 I J = some r := hr
      unfold zb_X12_cheers_0 at hr
      refine zs_278_0 ?_
      repeat' first | refine And.intro rfl ?_ | refine And.intro (Or.inl rfl) ?_ | refine And.intro (Or.inr rfl) ?_ | refine And.intro (Nat.le_of_ble_eq_true rfl) ?_ | refine And.intro (And.intro rfl rfl) ?_ | exact rfl
      refine Exists.intro _ (Exists.intro _ (And.intro (zr_X12_isPlay F (zz_u I 52 7 0) J (d+1) l1) ?_))
      repeat' first | refine And.intro rfl ?_ | refine And.intro (Or.inl rfl) ?_ | refine And.intro (Or.inr rfl) ?_ | refine And.intro (Nat.le_of_ble_eq_true rfl) ?_ | refine And.intro (And.intro rfl rfl) ?_ | exact rfl
      refine And.intro (fun (h1 : ¬ (zv_X12_isPlay l1) = 0) => ?_) (fun (h1 : ¬ (¬ (zv_X12_isPlay l1) = 0)) => ?_)
      · rw [if_pos h1] at hr
        refine zs_278_14 ?_
        repeat' first | refine And.intro rfl ?_ | refine And.intro (Or.inl rfl) ?_ | refine And.intro (Or.inr rfl) ?_ | refine And.intro (Nat.le_of_ble_eq_true rfl) ?_ | refine And.intro (And.intro rfl rfl) ?_ | exact rfl
        obtain ⟨r1, cr1, hr⟩ := Option.bind_eq_some_iff.mp hr
        refine Exists.intro _ (Exists.intro _ (And.intro (zr_X12_whereBits F (zz_u I 52 7 0) J (d+2) N 0 r1 cr1) ?_))
        repeat' first | refine And.intro rfl ?_ | refine And.intro (Or.inl rfl) ?_ | refine And.intro (Or.inr rfl) ?_ | refine And.intro (Nat.le_of_ble_eq_true rfl) ?_ | refine And.intro (And.intro rfl rfl) ?_ | exact rfl
        obtain ⟨r2, cr2, hr⟩ := Option.bind_eq_some_iff.mp hr
        refine Exists.intro _ (Exists.intro _ (And.intro (zr_X12_ofPlay F (zz_u I 52 7 0) J d N r1.1 l1 r2 cr2) ?_))
        repeat' first | refine And.intro rfl ?_ | refine And.intro (Or.inl rfl) ?_ | refine And.intro (Or.inr rfl) ?_ | refine And.intro (Nat.le_of_ble_eq_true rfl) ?_ | refine And.intro (And.intro rfl rfl) ?_ | exact rfl
        have g3 : ¬ ((14 + l1) < 0 ∨ 18 ≤ (14 + l1).toNatClampNeg) := zz_g hr
        replace hr := zz_gt hr
        refine And.intro (g3) ?_
        repeat' first | refine And.intro rfl ?_ | refine And.intro (Or.inl rfl) ?_ | refine And.intro (Or.inr rfl) ?_ | refine And.intro (Nat.le_of_ble_eq_true rfl) ?_ | refine And.intro (And.intro rfl rfl) ?_ | exact rfl
        exact zz_wk [true, true, true, true, true, true, false] rfl (ih41 _ _ _ _ _ _ _ _ _ hr)
      · rw [if_neg h1] at hr
        repeat' first | refine And.intro rfl ?_ | refine And.intro (Or.inl rfl) ?_ | refine And.intro (Or.inr rfl) ?_ | refine And.intro (Nat.le_of_ble_eq_true rfl) ?_ | refine And.intro (And.intro rfl rfl) ?_ | exact rfl
        cases hr
        repeat' first | refine And.intro rfl ?_ | refine And.intro (Or.inl rfl) ?_ | refine And.intro (Or.inr rfl) ?_ | refine And.intro (Nat.le_of_ble_eq_true rfl) ?_ | refine And.intro (And.intro rfl rfl) ?_ | exact rfl
    · intro l1 l2 l3 l4 l5 l6 I J r hr
      replace hr : zb_X12_cheers_41 N (zl_X12_cheers N n) l1 l2 l3 l4 l5 l6 I J = some r := hr
      unfold zb_X12_cheers_41 at hr
      refine zs_278_41 ?_
      repeat' first | refine And.intro rfl ?_ | refine And.intro (Or.inl rfl) ?_ | refine And.intro (Or.inr rfl) ?_ | refine And.intro (Nat.le_of_ble_eq_true rfl) ?_ | refine And.intro (And.intro rfl rfl) ?_ | exact rfl
      refine And.intro (fun (h2 : (I 52 1) ≤ l5) => ?_) (fun (h2 : ¬ ((I 52 1) ≤ l5)) => ?_)
      · rw [if_pos h2] at hr
        refine zs_278_88 ?_
        repeat' first | refine And.intro rfl ?_ | refine And.intro (Or.inl rfl) ?_ | refine And.intro (Or.inr rfl) ?_ | refine And.intro (Nat.le_of_ble_eq_true rfl) ?_ | refine And.intro (And.intro rfl rfl) ?_ | exact rfl
        exact zz_wk [true, true, true, false, true, true, false] rfl (ih91 _ _ _ _ _ _ _ _ _ hr)
      · rw [if_neg h2] at hr
        repeat' first | refine And.intro rfl ?_ | refine And.intro (Or.inl rfl) ?_ | refine And.intro (Or.inr rfl) ?_ | refine And.intro (Nat.le_of_ble_eq_true rfl) ?_ | refine And.intro (And.intro rfl rfl) ?_ | exact rfl
        refine Exists.intro _ (Exists.intro _ (And.intro (zr_X12_has F I J (d+2) l2 l5) ?_))
        repeat' first | refine And.intro rfl ?_ | refine And.intro (Or.inl rfl) ?_ | refine And.intro (Or.inr rfl) ?_ | refine And.intro (Nat.le_of_ble_eq_true rfl) ?_ | refine And.intro (And.intro rfl rfl) ?_ | exact rfl
        refine And.intro (fun (h3 : ¬ (zv_X12_has l2 l5) = 0) => ?_) (fun (h3 : ¬ (¬ (zv_X12_has l2 l5) = 0)) => ?_)
        · rw [if_pos h3] at hr
          refine zs_278_62 ?_
          repeat' first | refine And.intro rfl ?_ | refine And.intro (Or.inl rfl) ?_ | refine And.intro (Or.inr rfl) ?_ | refine And.intro (Nat.le_of_ble_eq_true rfl) ?_ | refine And.intro (And.intro rfl rfl) ?_ | exact rfl
          have g4 : ¬ (((7 * l5) + 5) < 0 ∨ 84 ≤ ((7 * l5) + 5).toNatClampNeg) := zz_g hr
          replace hr := zz_gt hr
          have g5 : ((zv_X12_doesClash I l3 l5) = 0) → (¬ (((7 * l5) + 6) < 0 ∨ 84 ≤ ((7 * l5) + 6).toNatClampNeg)) := zz_g hr
          replace hr := zz_gt hr
          have g6 : (¬ ((zv_X12_doesClash I l3 l5) = 0)) → (¬ (((7 * l5) + 6) < 0 ∨ 84 ≤ ((7 * l5) + 6).toNatClampNeg)) := zz_g hr
          replace hr := zz_gt hr
          refine Exists.intro _ (Exists.intro _ (And.intro (zr_X12_brings F I J d l3 l5 g4 g5 g6) ?_))
          repeat' first | refine And.intro rfl ?_ | refine And.intro (Or.inl rfl) ?_ | refine And.intro (Or.inr rfl) ?_ | refine And.intro (Nat.le_of_ble_eq_true rfl) ?_ | refine And.intro (And.intro rfl rfl) ?_ | exact rfl
          have g7 : ¬ (((7 * l5) + 4) < 0 ∨ 84 ≤ ((7 * l5) + 4).toNatClampNeg) := zz_g hr
          replace hr := zz_gt hr
          refine Exists.intro _ (Exists.intro _ (And.intro (zr_X12_knownBy F I J (d+1) l3 l5 g7) ?_))
          repeat' first | refine And.intro rfl ?_ | refine And.intro (Or.inl rfl) ?_ | refine And.intro (Or.inr rfl) ?_ | refine And.intro (Nat.le_of_ble_eq_true rfl) ?_ | refine And.intro (And.intro rfl rfl) ?_ | exact rfl
          exact zz_wk [true, true, true, true, true, true, false] rfl (ih82 _ _ _ _ _ _ _ _ _ hr)
        · rw [if_neg h3] at hr
          repeat' first | refine And.intro rfl ?_ | refine And.intro (Or.inl rfl) ?_ | refine And.intro (Or.inr rfl) ?_ | refine And.intro (Nat.le_of_ble_eq_true rfl) ?_ | refine And.intro (And.intro rfl rfl) ?_ | exact rfl
          exact zz_wk [true, true, true, true, true, true, false] rfl (ih82 _ _ _ _ _ _ _ _ _ hr)
    · intro l1 l2 l3 l4 l5 l6 I J r hr
      replace hr : zb_X12_cheers_82 N (zl_X12_cheers N n) l1 l2 l3 l4 l5 l6 I J = some r := hr
      unfold zb_X12_cheers_82 at hr
      refine zs_278_82 ?_
      repeat' first | refine And.intro rfl ?_ | refine And.intro (Or.inl rfl) ?_ | refine And.intro (Or.inr rfl) ?_ | refine And.intro (Nat.le_of_ble_eq_true rfl) ?_ | refine And.intro (And.intro rfl rfl) ?_ | exact rfl
      exact zz_wk [true, true, true, true, true, true, false] rfl (ih41 _ _ _ _ _ _ _ _ _ hr)
    · intro l1 l2 l3 l4 l5 l6 I J r hr
      replace hr : zb_X12_cheers_91 N (zl_X12_cheers N n) l1 l2 l3 l4 l5 l6 I J = some r := hr
      unfold zb_X12_cheers_91 at hr
      refine zs_278_91 ?_
      repeat' first | refine And.intro rfl ?_ | refine And.intro (Or.inl rfl) ?_ | refine And.intro (Or.inr rfl) ?_ | refine And.intro (Nat.le_of_ble_eq_true rfl) ?_ | refine And.intro (And.intro rfl rfl) ?_ | exact rfl
      refine And.intro (fun (h4 : l2 < l5) => ?_) (fun (h4 : ¬ (l2 < l5)) => ?_)
      · rw [if_pos h4] at hr
        refine zs_278_203 ?_
        repeat' first | refine And.intro rfl ?_ | refine And.intro (Or.inl rfl) ?_ | refine And.intro (Or.inr rfl) ?_ | refine And.intro (Nat.le_of_ble_eq_true rfl) ?_ | refine And.intro (And.intro rfl rfl) ?_ | exact rfl
        have g8 : ¬ (l2 < 0 ∨ 4096 ≤ l2.toNatClampNeg) := zz_g hr
        replace hr := zz_gt hr
        refine And.intro (g8) ?_
        repeat' first | refine And.intro rfl ?_ | refine And.intro (Or.inl rfl) ?_ | refine And.intro (Or.inr rfl) ?_ | refine And.intro (Nat.le_of_ble_eq_true rfl) ?_ | refine And.intro (And.intro rfl rfl) ?_ | exact rfl
        have g9 : ¬ (((zz_u I 52 6 0) 52 6) < 0 ∨ 20 ≤ ((zz_u I 52 6 0) 52 6).toNatClampNeg) := zz_g hr
        replace hr := zz_gt hr
        refine Exists.intro _ (Exists.intro _ (And.intro (zr_X12_tell F (zz_u I 52 6 0) J (d+2) ((I 77 l2.toNatClampNeg).toInt64) g9) ?_))
        repeat' first | refine And.intro rfl ?_ | refine And.intro (Or.inl rfl) ?_ | refine And.intro (Or.inr rfl) ?_ | refine And.intro (Nat.le_of_ble_eq_true rfl) ?_ | refine And.intro (And.intro rfl rfl) ?_ | exact rfl
        cases hr
        repeat' first | refine And.intro rfl ?_ | refine And.intro (Or.inl rfl) ?_ | refine And.intro (Or.inr rfl) ?_ | refine And.intro (Nat.le_of_ble_eq_true rfl) ?_ | refine And.intro (And.intro rfl rfl) ?_ | exact rfl
      · rw [if_neg h4] at hr
        repeat' first | refine And.intro rfl ?_ | refine And.intro (Or.inl rfl) ?_ | refine And.intro (Or.inr rfl) ?_ | refine And.intro (Nat.le_of_ble_eq_true rfl) ?_ | refine And.intro (And.intro rfl rfl) ?_ | exact rfl
        refine And.intro (fun (h5 : (l5 &&& (l2 ^^^ ((-1)))) = 0) => ?_) (fun (h5 : ¬ ((l5 &&& (l2 ^^^ ((-1)))) = 0)) => ?_)
        · rw [if_pos h5] at hr
          refine zs_278_109 ?_
          repeat' first | refine And.intro rfl ?_ | refine And.intro (Or.inl rfl) ?_ | refine And.intro (Or.inr rfl) ?_ | refine And.intro (Nat.le_of_ble_eq_true rfl) ?_ | refine And.intro (And.intro rfl rfl) ?_ | exact rfl
          have g10 : ¬ (l5 < 0 ∨ 4096 ≤ l5.toNatClampNeg) := zz_g hr
          replace hr := zz_gt hr
          refine And.intro (g10) ?_
          repeat' first | refine And.intro rfl ?_ | refine And.intro (Or.inl rfl) ?_ | refine And.intro (Or.inr rfl) ?_ | refine And.intro (Nat.le_of_ble_eq_true rfl) ?_ | refine And.intro (And.intro rfl rfl) ?_ | exact rfl
          exact zz_wk [true, true, true, false, true, true, true] rfl (ih120 _ _ _ _ _ _ _ _ _ hr)
        · rw [if_neg h5] at hr
          repeat' first | refine And.intro rfl ?_ | refine And.intro (Or.inl rfl) ?_ | refine And.intro (Or.inr rfl) ?_ | refine And.intro (Nat.le_of_ble_eq_true rfl) ?_ | refine And.intro (And.intro rfl rfl) ?_ | exact rfl
          exact zz_wk [true, true, true, false, true, true, false] rfl (ih197 _ _ _ _ _ _ _ _ _ hr)
    · intro l1 l2 l3 l4 l5 l6 I J r hr
      replace hr : zb_X12_cheers_120 N (zl_X12_cheers N n) l1 l2 l3 l4 l5 l6 I J = some r := hr
      unfold zb_X12_cheers_120 at hr
      refine zs_278_120 ?_
      repeat' first | refine And.intro rfl ?_ | refine And.intro (Or.inl rfl) ?_ | refine And.intro (Or.inr rfl) ?_ | refine And.intro (Nat.le_of_ble_eq_true rfl) ?_ | refine And.intro (And.intro rfl rfl) ?_ | exact rfl
      refine And.intro (fun (h6 : (I 52 1) ≤ l6) => ?_) (fun (h6 : ¬ ((I 52 1) ≤ l6)) => ?_)
      · rw [if_pos h6] at hr
        exact zz_wk [true, true, true, false, true, true, false] rfl (ih197 _ _ _ _ _ _ _ _ _ hr)
      · rw [if_neg h6] at hr
        repeat' first | refine And.intro rfl ?_ | refine And.intro (Or.inl rfl) ?_ | refine And.intro (Or.inr rfl) ?_ | refine And.intro (Nat.le_of_ble_eq_true rfl) ?_ | refine And.intro (And.intro rfl rfl) ?_ | exact rfl
        refine Exists.intro _ (Exists.intro _ (And.intro (zr_X12_has F I J (d+2) l5 l6) ?_))
        repeat' first | refine And.intro rfl ?_ | refine And.intro (Or.inl rfl) ?_ | refine And.intro (Or.inr rfl) ?_ | refine And.intro (Nat.le_of_ble_eq_true rfl) ?_ | refine And.intro (And.intro rfl rfl) ?_ | exact rfl
        refine And.intro (fun (h7 : (zv_X12_has l5 l6) = 0) => ?_) (fun (h7 : ¬ ((zv_X12_has l5 l6) = 0)) => ?_)
        · rw [if_pos h7] at hr
          exact zz_wk [true, true, true, false, true, true, true] rfl (ih191 _ _ _ _ _ _ _ _ _ hr)
        · rw [if_neg h7] at hr
          repeat' first | refine And.intro rfl ?_ | refine And.intro (Or.inl rfl) ?_ | refine And.intro (Or.inr rfl) ?_ | refine And.intro (Nat.le_of_ble_eq_true rfl) ?_ | refine And.intro (And.intro rfl rfl) ?_ | exact rfl
          have g11 : ¬ (l5 < 0 ∨ 4096 ≤ l5.toNatClampNeg) := zz_g hr
          replace hr := zz_gt hr
          refine And.intro (g11) ?_
          repeat' first | refine And.intro rfl ?_ | refine And.intro (Or.inl rfl) ?_ | refine And.intro (Or.inr rfl) ?_ | refine And.intro (Nat.le_of_ble_eq_true rfl) ?_ | refine And.intro (And.intro rfl rfl) ?_ | exact rfl
          have g12 : ¬ ((l5 &&& (((1 : Int32) <<< (l6 &&& 31)) ^^^ ((-1)))) < 0 ∨ 4096 ≤ (l5 &&& (((1 : Int32) <<< (l6 &&& 31)) ^^^ ((-1)))).toNatClampNeg) := zz_g hr
          replace hr := zz_gt hr
          refine And.intro (g12) ?_
          repeat' first | refine And.intro rfl ?_ | refine And.intro (Or.inl rfl) ?_ | refine And.intro (Or.inr rfl) ?_ | refine And.intro (Nat.le_of_ble_eq_true rfl) ?_ | refine And.intro (And.intro rfl rfl) ?_ | exact rfl
          obtain ⟨r13, cr13, hr⟩ := Option.bind_eq_some_iff.mp hr
          refine Exists.intro _ (Exists.intro _ (And.intro (zr_X12_knownOf F I J d N l1 (l5 &&& (((1 : Int32) <<< (l6 &&& 31)) ^^^ ((-1)))) r13 cr13) ?_))
          repeat' first | refine And.intro rfl ?_ | refine And.intro (Or.inl rfl) ?_ | refine And.intro (Or.inr rfl) ?_ | refine And.intro (Nat.le_of_ble_eq_true rfl) ?_ | refine And.intro (And.intro rfl rfl) ?_ | exact rfl
          have g14 : ¬ (((7 * l6) + 5) < 0 ∨ 84 ≤ ((7 * l6) + 5).toNatClampNeg) := zz_g hr
          replace hr := zz_gt hr
          have g15 : ((zv_X12_doesClash I r13.1 l6) = 0) → (¬ (((7 * l6) + 6) < 0 ∨ 84 ≤ ((7 * l6) + 6).toNatClampNeg)) := zz_g hr
          replace hr := zz_gt hr
          have g16 : (¬ ((zv_X12_doesClash I r13.1 l6) = 0)) → (¬ (((7 * l6) + 6) < 0 ∨ 84 ≤ ((7 * l6) + 6).toNatClampNeg)) := zz_g hr
          replace hr := zz_gt hr
          refine Exists.intro _ (Exists.intro _ (And.intro (zr_X12_brings F I J d r13.1 l6 g14 g15 g16) ?_))
          repeat' first | refine And.intro rfl ?_ | refine And.intro (Or.inl rfl) ?_ | refine And.intro (Or.inr rfl) ?_ | refine And.intro (Nat.le_of_ble_eq_true rfl) ?_ | refine And.intro (And.intro rfl rfl) ?_ | exact rfl
          refine Exists.intro _ (Exists.intro _ (And.intro (zr_max F I J (d+2) (I 77 l5.toNatClampNeg) ((I 77 ((l5 &&& (((1 : Int32) <<< (l6 &&& 31)) ^^^ ((-1)))).toNatClampNeg)) + (zv_X12_brings I r13.1 l6))) ?_))
          repeat' first | refine And.intro rfl ?_ | refine And.intro (Or.inl rfl) ?_ | refine And.intro (Or.inr rfl) ?_ | refine And.intro (Nat.le_of_ble_eq_true rfl) ?_ | refine And.intro (And.intro rfl rfl) ?_ | exact rfl
          refine And.intro (g11) ?_
          repeat' first | refine And.intro rfl ?_ | refine And.intro (Or.inl rfl) ?_ | refine And.intro (Or.inr rfl) ?_ | refine And.intro (Nat.le_of_ble_eq_true rfl) ?_ | refine And.intro (And.intro rfl rfl) ?_ | exact rfl
          exact zz_wk [true, true, true, false, true, true, true] rfl (ih191 _ _ _ _ _ _ _ _ _ hr)
    · intro l1 l2 l3 l4 l5 l6 I J r hr
      replace hr : zb_X12_cheers_191 N (zl_X12_cheers N n) l1 l2 l3 l4 l5 l6 I J = some r := hr
      unfold zb_X12_cheers_191 at hr
      refine zs_278_191 ?_
      repeat' first | refine And.intro rfl ?_ | refine And.intro (Or.inl rfl) ?_ | refine And.intro (Or.inr rfl) ?_ | refine And.intro (Nat.le_of_ble_eq_true rfl) ?_ | refine And.intro (And.intro rfl rfl) ?_ | exact rfl
      exact zz_wk [true, true, true, false, true, true, true] rfl (ih120 _ _ _ _ _ _ _ _ _ hr)
    · intro l1 l2 l3 l4 l5 l6 I J r hr
      replace hr : zb_X12_cheers_197 N (zl_X12_cheers N n) l1 l2 l3 l4 l5 l6 I J = some r := hr
      unfold zb_X12_cheers_197 at hr
      refine zs_278_197 ?_
      repeat' first | refine And.intro rfl ?_ | refine And.intro (Or.inl rfl) ?_ | refine And.intro (Or.inr rfl) ?_ | refine And.intro (Nat.le_of_ble_eq_true rfl) ?_ | refine And.intro (And.intro rfl rfl) ?_ | exact rfl
      exact zz_wk [true, true, true, false, true, true, false] rfl (ih91 _ _ _ _ _ _ _ _ _ hr)
theorem zr_X12_cheers (F : zz_F) (I : Nat → Nat → Int32) (J : Nat → Nat → Int64) (d N : Nat) (l1 : Int32) (r : Int32 × (Nat → Nat → Int32) × (Nat → Nat → Int64)) (h : zf_X12_cheers N l1 I J = some r) : zz_run (d+3) 278 0 [some (.ref 52), some (.int (l1)), none, none, none, none, none] [] (zz_S F I J) (some (.int (r.1))) (zz_S F (r.2.1) (r.2.2)) := (zq_X12_cheers F d N N).1 l1 0 0 0 0 0 I J r h
def zb_X12_withPerson_0 (N : Nat) (rec : Nat → Int32 → Int32 → Int32 → Int32 → (Nat → Nat → Int32) → (Nat → Nat → Int64) → Option (Int32 × (Nat → Nat → Int32) × (Nat → Nat → Int64))) (l1 : Int32) (l2 : Int32) (l3 : Int32) (l4 : Int32) (I : Nat → Nat → Int32) (J : Nat → Nat → Int64) : Option (Int32 × (Nat → Nat → Int32) × (Nat → Nat → Int64)) := rec 5 l1 l2 0 0 I J
def zb_X12_withPerson_5 (N : Nat) (rec : Nat → Int32 → Int32 → Int32 → Int32 → (Nat → Nat → Int32) → (Nat → Nat → Int64) → Option (Int32 × (Nat → Nat → Int32) × (Nat → Nat → Int64))) (l1 : Int32) (l2 : Int32) (l3 : Int32) (l4 : Int32) (I : Nat → Nat → Int32) (J : Nat → Nat → Int64) : Option (Int32 × (Nat → Nat → Int32) × (Nat → Nat → Int64)) := if (I 52 1) ≤ l4 then (some (l3, I, J)) else (if (zv_X12_has l1 l4) = 0 then (rec 5 l1 l2 (l3 ||| 0) (l4 + 1) I J) else (if ¬ (((7 * l4) + 2) < 0 ∨ 84 ≤ ((7 * l4) + 2).toNatClampNeg) then (if ((zv_X12_field I l4 2) &&& l2) = 0 then (rec 5 l1 l2 (l3 ||| 0) (l4 + 1) I J) else (rec 5 l1 l2 (l3 ||| ((1 : Int32) <<< (l4 &&& 31))) (l4 + 1) I J)) else none))
def zl_X12_withPerson (N : Nat) : Nat → Nat → Int32 → Int32 → Int32 → Int32 → (Nat → Nat → Int32) → (Nat → Nat → Int64) → Option (Int32 × (Nat → Nat → Int32) × (Nat → Nat → Int64))
  | 0 => fun _ _ _ _ _ _ _ => none
  | n + 1 => fun pc l1 l2 l3 l4 I J => if pc = 0 then zb_X12_withPerson_0 N (zl_X12_withPerson N n) l1 l2 l3 l4 I J else (if pc = 5 then zb_X12_withPerson_5 N (zl_X12_withPerson N n) l1 l2 l3 l4 I J else none)
def zf_X12_withPerson (N : Nat) (l1 : Int32) (l2 : Int32) (I : Nat → Nat → Int32) (J : Nat → Nat → Int64) : Option (Int32 × (Nat → Nat → Int32) × (Nat → Nat → Int64)) := zl_X12_withPerson N N 0 l1 l2 0 0 I J
theorem zq_X12_withPerson (F : zz_F) (d N : Nat) : ∀ n : Nat, (∀ (l1 : Int32) (l2 : Int32) (l3 : Int32) (l4 : Int32) (I : Nat → Nat → Int32) (J : Nat → Nat → Int64) (r : Int32 × (Nat → Nat → Int32) × (Nat → Nat → Int64)), zl_X12_withPerson N n 0 l1 l2 l3 l4 I J = some r → zz_run (d+1) 279 0 [some (.ref 52), some (.int (l1)), some (.int (l2)), none, none] [] (zz_S F I J) (some (.int (r.1))) (zz_S F (I) (J))) ∧ (∀ (l1 : Int32) (l2 : Int32) (l3 : Int32) (l4 : Int32) (I : Nat → Nat → Int32) (J : Nat → Nat → Int64) (r : Int32 × (Nat → Nat → Int32) × (Nat → Nat → Int64)), zl_X12_withPerson N n 5 l1 l2 l3 l4 I J = some r → zz_run (d+1) 279 5 [some (.ref 52), some (.int (l1)), some (.int (l2)), some (.int (l3)), some (.int (l4))] [] (zz_S F I J) (some (.int (r.1))) (zz_S F (I) (J))) := by
  intro n
  induction n with
  | zero => exact ⟨fun _ _ _ _ _ _ _ h => zz_no h, fun _ _ _ _ _ _ _ h => zz_no h⟩
  | succ n ih =>
    obtain ⟨ih0, ih5⟩ := ih
    refine ⟨?_, ?_⟩
    · intro l1 l2 l3 l4 I J r hr
      replace hr : zb_X12_withPerson_0 N (zl_X12_withPerson N n) l1 l2 l3 l4 I J = some r := hr
      unfold zb_X12_withPerson_0 at hr
      refine zs_279_0 ?_
      repeat' first | refine And.intro rfl ?_ | refine And.intro (Or.inl rfl) ?_ | refine And.intro (Or.inr rfl) ?_ | refine And.intro (Nat.le_of_ble_eq_true rfl) ?_ | refine And.intro (And.intro rfl rfl) ?_ | exact rfl
      exact zz_wk [true, true, true, true, true] rfl (ih5 _ _ _ _ _ _ _ hr)
    · intro l1 l2 l3 l4 I J r hr
      replace hr : zb_X12_withPerson_5 N (zl_X12_withPerson N n) l1 l2 l3 l4 I J = some r := hr
      unfold zb_X12_withPerson_5 at hr
      refine zs_279_5 ?_
      repeat' first | refine And.intro rfl ?_ | refine And.intro (Or.inl rfl) ?_ | refine And.intro (Or.inr rfl) ?_ | refine And.intro (Nat.le_of_ble_eq_true rfl) ?_ | refine And.intro (And.intro rfl rfl) ?_ | exact rfl
      refine And.intro (fun (h1 : (I 52 1) ≤ l4) => ?_) (fun (h1 : ¬ ((I 52 1) ≤ l4)) => ?_)
      · rw [if_pos h1] at hr
        refine zs_279_52 ?_
        repeat' first | refine And.intro rfl ?_ | refine And.intro (Or.inl rfl) ?_ | refine And.intro (Or.inr rfl) ?_ | refine And.intro (Nat.le_of_ble_eq_true rfl) ?_ | refine And.intro (And.intro rfl rfl) ?_ | exact rfl
        cases hr
        repeat' first | refine And.intro rfl ?_ | refine And.intro (Or.inl rfl) ?_ | refine And.intro (Or.inr rfl) ?_ | refine And.intro (Nat.le_of_ble_eq_true rfl) ?_ | refine And.intro (And.intro rfl rfl) ?_ | exact rfl
      · rw [if_neg h1] at hr
        repeat' first | refine And.intro rfl ?_ | refine And.intro (Or.inl rfl) ?_ | refine And.intro (Or.inr rfl) ?_ | refine And.intro (Nat.le_of_ble_eq_true rfl) ?_ | refine And.intro (And.intro rfl rfl) ?_ | exact rfl
        refine Exists.intro _ (Exists.intro _ (And.intro (zr_X12_has F I J d l1 l4) ?_))
        repeat' first | refine And.intro rfl ?_ | refine And.intro (Or.inl rfl) ?_ | refine And.intro (Or.inr rfl) ?_ | refine And.intro (Nat.le_of_ble_eq_true rfl) ?_ | refine And.intro (And.intro rfl rfl) ?_ | exact rfl
        refine And.intro (fun (h2 : (zv_X12_has l1 l4) = 0) => ?_) (fun (h2 : ¬ ((zv_X12_has l1 l4) = 0)) => ?_)
        · rw [if_pos h2] at hr
          refine zs_279_43 ?_
          repeat' first | refine And.intro rfl ?_ | refine And.intro (Or.inl rfl) ?_ | refine And.intro (Or.inr rfl) ?_ | refine And.intro (Nat.le_of_ble_eq_true rfl) ?_ | refine And.intro (And.intro rfl rfl) ?_ | exact rfl
          refine zs_279_44 ?_
          repeat' first | refine And.intro rfl ?_ | refine And.intro (Or.inl rfl) ?_ | refine And.intro (Or.inr rfl) ?_ | refine And.intro (Nat.le_of_ble_eq_true rfl) ?_ | refine And.intro (And.intro rfl rfl) ?_ | exact rfl
          exact zz_wk [true, true, true, true, true] rfl (ih5 _ _ _ _ _ _ _ hr)
        · rw [if_neg h2] at hr
          repeat' first | refine And.intro rfl ?_ | refine And.intro (Or.inl rfl) ?_ | refine And.intro (Or.inr rfl) ?_ | refine And.intro (Nat.le_of_ble_eq_true rfl) ?_ | refine And.intro (And.intro rfl rfl) ?_ | exact rfl
          have g1 : ¬ (((7 * l4) + 2) < 0 ∨ 84 ≤ ((7 * l4) + 2).toNatClampNeg) := zz_g hr
          replace hr := zz_gt hr
          refine Exists.intro _ (Exists.intro _ (And.intro (zr_X12_field F I J d l4 2 g1) ?_))
          repeat' first | refine And.intro rfl ?_ | refine And.intro (Or.inl rfl) ?_ | refine And.intro (Or.inr rfl) ?_ | refine And.intro (Nat.le_of_ble_eq_true rfl) ?_ | refine And.intro (And.intro rfl rfl) ?_ | exact rfl
          refine And.intro (fun (h3 : ((zv_X12_field I l4 2) &&& l2) = 0) => ?_) (fun (h3 : ¬ (((zv_X12_field I l4 2) &&& l2) = 0)) => ?_)
          · rw [if_pos h3] at hr
            refine zs_279_43 ?_
            repeat' first | refine And.intro rfl ?_ | refine And.intro (Or.inl rfl) ?_ | refine And.intro (Or.inr rfl) ?_ | refine And.intro (Nat.le_of_ble_eq_true rfl) ?_ | refine And.intro (And.intro rfl rfl) ?_ | exact rfl
            refine zs_279_44 ?_
            repeat' first | refine And.intro rfl ?_ | refine And.intro (Or.inl rfl) ?_ | refine And.intro (Or.inr rfl) ?_ | refine And.intro (Nat.le_of_ble_eq_true rfl) ?_ | refine And.intro (And.intro rfl rfl) ?_ | exact rfl
            exact zz_wk [true, true, true, true, true] rfl (ih5 _ _ _ _ _ _ _ hr)
          · rw [if_neg h3] at hr
            repeat' first | refine And.intro rfl ?_ | refine And.intro (Or.inl rfl) ?_ | refine And.intro (Or.inr rfl) ?_ | refine And.intro (Nat.le_of_ble_eq_true rfl) ?_ | refine And.intro (And.intro rfl rfl) ?_ | exact rfl
            refine zs_279_44 ?_
            repeat' first | refine And.intro rfl ?_ | refine And.intro (Or.inl rfl) ?_ | refine And.intro (Or.inr rfl) ?_ | refine And.intro (Nat.le_of_ble_eq_true rfl) ?_ | refine And.intro (And.intro rfl rfl) ?_ | exact rfl
            exact zz_wk [true, true, true, true, true] rfl (ih5 _ _ _ _ _ _ _ hr)
theorem zr_X12_withPerson (F : zz_F) (I : Nat → Nat → Int32) (J : Nat → Nat → Int64) (d N : Nat) (l1 : Int32) (l2 : Int32) (r : Int32 × (Nat → Nat → Int32) × (Nat → Nat → Int64)) (h : zf_X12_withPerson N l1 l2 I J = some r) : zz_run (d+1) 279 0 [some (.ref 52), some (.int (l1)), some (.int (l2)), none, none] [] (zz_S F I J) (some (.int (r.1))) (zz_S F (I) (J)) := (zq_X12_withPerson F d N N).1 l1 l2 0 0 I J r h
def zb_X12_who_0 (N : Nat) (rec : Nat → Int32 → Int32 → (Nat → Nat → Int32) → (Nat → Nat → Int64) → Option (Int32 × (Nat → Nat → Int32) × (Nat → Nat → Int64))) (l1 : Int32) (l2 : Int32) (I : Nat → Nat → Int32) (J : Nat → Nat → Int64) : Option (Int32 × (Nat → Nat → Int32) × (Nat → Nat → Int64)) := if ¬ (zv_X12_in l1 0 5) = 0 then ((zf_X12_withPerson N (((1 : Int32) <<< ((I 52 1) &&& 31)) - 1) ((1 : Int32) <<< (l1 &&& 31)) (zz_u I 52 7 0) J).bind fun r1 => (zf_X12_ofPlay N r1.1 0 (zz_u (zz_u I 52 7 0) 52 6 0) J).bind fun r2 => if ¬ (((zz_u (zz_u I 52 7 0) 52 6 0) 52 6) < 0 ∨ 20 ≤ ((zz_u (zz_u I 52 7 0) 52 6 0) 52 6).toNatClampNeg) then ((zf_X12_ofPlay N r1.1 1 (zw_X12_tell (zz_u (zz_u I 52 7 0) 52 6 0) J ((zv_J6_bitCount r2.1).toInt64)) (zx_X12_tell (zz_u (zz_u I 52 7 0) 52 6 0) J ((zv_J6_bitCount r2.1).toInt64))).bind fun r4 => if ¬ (((zw_X12_tell (zz_u (zz_u I 52 7 0) 52 6 0) J ((zv_J6_bitCount r2.1).toInt64)) 52 6) < 0 ∨ 20 ≤ ((zw_X12_tell (zz_u (zz_u I 52 7 0) 52 6 0) J ((zv_J6_bitCount r2.1).toInt64)) 52 6).toNatClampNeg) then (some (r1.1, zw_X12_tell (zw_X12_tell (zz_u (zz_u I 52 7 0) 52 6 0) J ((zv_J6_bitCount r2.1).toInt64)) (zx_X12_tell (zz_u (zz_u I 52 7 0) 52 6 0) J ((zv_J6_bitCount r2.1).toInt64)) ((zv_J6_bitCount r4.1).toInt64), zx_X12_tell (zw_X12_tell (zz_u (zz_u I 52 7 0) 52 6 0) J ((zv_J6_bitCount r2.1).toInt64)) (zx_X12_tell (zz_u (zz_u I 52 7 0) 52 6 0) J ((zv_J6_bitCount r2.1).toInt64)) ((zv_J6_bitCount r4.1).toInt64))) else none) else none) else (some ((-1), zz_u I 52 7 0, J))
def zl_X12_who (N : Nat) : Nat → Nat → Int32 → Int32 → (Nat → Nat → Int32) → (Nat → Nat → Int64) → Option (Int32 × (Nat → Nat → Int32) × (Nat → Nat → Int64))
  | 0 => fun _ _ _ _ _ => none
  | n + 1 => fun pc l1 l2 I J => if pc = 0 then zb_X12_who_0 N (zl_X12_who N n) l1 l2 I J else none
def zf_X12_who (N : Nat) (l1 : Int32) (I : Nat → Nat → Int32) (J : Nat → Nat → Int64) : Option (Int32 × (Nat → Nat → Int32) × (Nat → Nat → Int64)) := zl_X12_who N N 0 l1 0 I J
theorem zq_X12_who (F : zz_F) (d N : Nat) : ∀ n : Nat, (∀ (l1 : Int32) (l2 : Int32) (I : Nat → Nat → Int32) (J : Nat → Nat → Int64) (r : Int32 × (Nat → Nat → Int32) × (Nat → Nat → Int64)), zl_X12_who N n 0 l1 l2 I J = some r → zz_run (d+3) 280 0 [some (.ref 52), some (.int (l1)), none] [] (zz_S F I J) (some (.int (r.1))) (zz_S F (r.2.1) (r.2.2))) := by
  intro n
  induction n with
  | zero => exact fun _ _ _ _ _ h => zz_no h
  | succ n ih =>
    have ih0 := ih
    skip
    · intro l1 l2 I J r hr
      replace hr : zb_X12_who_0 N (zl_X12_who N n) l1 l2 I J = some r := hr
      unfold zb_X12_who_0 at hr
      refine zs_280_0 ?_
      repeat' first | refine And.intro rfl ?_ | refine And.intro (Or.inl rfl) ?_ | refine And.intro (Or.inr rfl) ?_ | refine And.intro (Nat.le_of_ble_eq_true rfl) ?_ | refine And.intro (And.intro rfl rfl) ?_ | exact rfl
      refine Exists.intro _ (Exists.intro _ (And.intro (zr_X12_in F (zz_u I 52 7 0) J (d+2) l1 0 5) ?_))
      repeat' first | refine And.intro rfl ?_ | refine And.intro (Or.inl rfl) ?_ | refine And.intro (Or.inr rfl) ?_ | refine And.intro (Nat.le_of_ble_eq_true rfl) ?_ | refine And.intro (And.intro rfl rfl) ?_ | exact rfl
      refine And.intro (fun (h1 : ¬ (zv_X12_in l1 0 5) = 0) => ?_) (fun (h1 : ¬ (¬ (zv_X12_in l1 0 5) = 0)) => ?_)
      · rw [if_pos h1] at hr
        refine zs_280_16 ?_
        repeat' first | refine And.intro rfl ?_ | refine And.intro (Or.inl rfl) ?_ | refine And.intro (Or.inr rfl) ?_ | refine And.intro (Nat.le_of_ble_eq_true rfl) ?_ | refine And.intro (And.intro rfl rfl) ?_ | exact rfl
        obtain ⟨r1, cr1, hr⟩ := Option.bind_eq_some_iff.mp hr
        refine Exists.intro _ (Exists.intro _ (And.intro (zr_X12_withPerson F (zz_u I 52 7 0) J (d+1) N (((1 : Int32) <<< ((I 52 1) &&& 31)) - 1) ((1 : Int32) <<< (l1 &&& 31)) r1 cr1) ?_))
        repeat' first | refine And.intro rfl ?_ | refine And.intro (Or.inl rfl) ?_ | refine And.intro (Or.inr rfl) ?_ | refine And.intro (Nat.le_of_ble_eq_true rfl) ?_ | refine And.intro (And.intro rfl rfl) ?_ | exact rfl
        obtain ⟨r2, cr2, hr⟩ := Option.bind_eq_some_iff.mp hr
        refine Exists.intro _ (Exists.intro _ (And.intro (zr_X12_ofPlay F (zz_u (zz_u I 52 7 0) 52 6 0) J d N r1.1 0 r2 cr2) ?_))
        repeat' first | refine And.intro rfl ?_ | refine And.intro (Or.inl rfl) ?_ | refine And.intro (Or.inr rfl) ?_ | refine And.intro (Nat.le_of_ble_eq_true rfl) ?_ | refine And.intro (And.intro rfl rfl) ?_ | exact rfl
        refine Exists.intro _ (Exists.intro _ (And.intro (zr_J6_bitCount F (zz_u (zz_u I 52 7 0) 52 6 0) J (d+2) r2.1) ?_))
        repeat' first | refine And.intro rfl ?_ | refine And.intro (Or.inl rfl) ?_ | refine And.intro (Or.inr rfl) ?_ | refine And.intro (Nat.le_of_ble_eq_true rfl) ?_ | refine And.intro (And.intro rfl rfl) ?_ | exact rfl
        have g3 : ¬ (((zz_u (zz_u I 52 7 0) 52 6 0) 52 6) < 0 ∨ 20 ≤ ((zz_u (zz_u I 52 7 0) 52 6 0) 52 6).toNatClampNeg) := zz_g hr
        replace hr := zz_gt hr
        refine Exists.intro _ (Exists.intro _ (And.intro (zr_X12_tell F (zz_u (zz_u I 52 7 0) 52 6 0) J (d+2) ((zv_J6_bitCount r2.1).toInt64) g3) ?_))
        repeat' first | refine And.intro rfl ?_ | refine And.intro (Or.inl rfl) ?_ | refine And.intro (Or.inr rfl) ?_ | refine And.intro (Nat.le_of_ble_eq_true rfl) ?_ | refine And.intro (And.intro rfl rfl) ?_ | exact rfl
        obtain ⟨r4, cr4, hr⟩ := Option.bind_eq_some_iff.mp hr
        refine Exists.intro _ (Exists.intro _ (And.intro (zr_X12_ofPlay F (zw_X12_tell (zz_u (zz_u I 52 7 0) 52 6 0) J ((zv_J6_bitCount r2.1).toInt64)) (zx_X12_tell (zz_u (zz_u I 52 7 0) 52 6 0) J ((zv_J6_bitCount r2.1).toInt64)) d N r1.1 1 r4 cr4) ?_))
        repeat' first | refine And.intro rfl ?_ | refine And.intro (Or.inl rfl) ?_ | refine And.intro (Or.inr rfl) ?_ | refine And.intro (Nat.le_of_ble_eq_true rfl) ?_ | refine And.intro (And.intro rfl rfl) ?_ | exact rfl
        refine Exists.intro _ (Exists.intro _ (And.intro (zr_J6_bitCount F (zw_X12_tell (zz_u (zz_u I 52 7 0) 52 6 0) J ((zv_J6_bitCount r2.1).toInt64)) (zx_X12_tell (zz_u (zz_u I 52 7 0) 52 6 0) J ((zv_J6_bitCount r2.1).toInt64)) (d+2) r4.1) ?_))
        repeat' first | refine And.intro rfl ?_ | refine And.intro (Or.inl rfl) ?_ | refine And.intro (Or.inr rfl) ?_ | refine And.intro (Nat.le_of_ble_eq_true rfl) ?_ | refine And.intro (And.intro rfl rfl) ?_ | exact rfl
        have g5 : ¬ (((zw_X12_tell (zz_u (zz_u I 52 7 0) 52 6 0) J ((zv_J6_bitCount r2.1).toInt64)) 52 6) < 0 ∨ 20 ≤ ((zw_X12_tell (zz_u (zz_u I 52 7 0) 52 6 0) J ((zv_J6_bitCount r2.1).toInt64)) 52 6).toNatClampNeg) := zz_g hr
        replace hr := zz_gt hr
        refine Exists.intro _ (Exists.intro _ (And.intro (zr_X12_tell F (zw_X12_tell (zz_u (zz_u I 52 7 0) 52 6 0) J ((zv_J6_bitCount r2.1).toInt64)) (zx_X12_tell (zz_u (zz_u I 52 7 0) 52 6 0) J ((zv_J6_bitCount r2.1).toInt64)) (d+2) ((zv_J6_bitCount r4.1).toInt64) g5) ?_))
        repeat' first | refine And.intro rfl ?_ | refine And.intro (Or.inl rfl) ?_ | refine And.intro (Or.inr rfl) ?_ | refine And.intro (Nat.le_of_ble_eq_true rfl) ?_ | refine And.intro (And.intro rfl rfl) ?_ | exact rfl
        cases hr
        repeat' first | refine And.intro rfl ?_ | refine And.intro (Or.inl rfl) ?_ | refine And.intro (Or.inr rfl) ?_ | refine And.intro (Nat.le_of_ble_eq_true rfl) ?_ | refine And.intro (And.intro rfl rfl) ?_ | exact rfl
      · rw [if_neg h1] at hr
        repeat' first | refine And.intro rfl ?_ | refine And.intro (Or.inl rfl) ?_ | refine And.intro (Or.inr rfl) ?_ | refine And.intro (Nat.le_of_ble_eq_true rfl) ?_ | refine And.intro (And.intro rfl rfl) ?_ | exact rfl
        cases hr
        repeat' first | refine And.intro rfl ?_ | refine And.intro (Or.inl rfl) ?_ | refine And.intro (Or.inr rfl) ?_ | refine And.intro (Nat.le_of_ble_eq_true rfl) ?_ | refine And.intro (And.intro rfl rfl) ?_ | exact rfl
theorem zr_X12_who (F : zz_F) (I : Nat → Nat → Int32) (J : Nat → Nat → Int64) (d N : Nat) (l1 : Int32) (r : Int32 × (Nat → Nat → Int32) × (Nat → Nat → Int64)) (h : zf_X12_who N l1 I J = some r) : zz_run (d+3) 280 0 [some (.ref 52), some (.int (l1)), none] [] (zz_S F I J) (some (.int (r.1))) (zz_S F (r.2.1) (r.2.2)) := (zq_X12_who F d N N) l1 0 I J r h
def zb_X12_personsOf_0 (N : Nat) (rec : Nat → Int32 → Int32 → Int32 → (Nat → Nat → Int32) → (Nat → Nat → Int64) → Option (Int32 × (Nat → Nat → Int32) × (Nat → Nat → Int64))) (l1 : Int32) (l2 : Int32) (l3 : Int32) (I : Nat → Nat → Int32) (J : Nat → Nat → Int64) : Option (Int32 × (Nat → Nat → Int32) × (Nat → Nat → Int64)) := rec 4 l1 0 0 I J
def zb_X12_personsOf_4 (N : Nat) (rec : Nat → Int32 → Int32 → Int32 → (Nat → Nat → Int32) → (Nat → Nat → Int64) → Option (Int32 × (Nat → Nat → Int32) × (Nat → Nat → Int64))) (l1 : Int32) (l2 : Int32) (l3 : Int32) (I : Nat → Nat → Int32) (J : Nat → Nat → Int64) : Option (Int32 × (Nat → Nat → Int32) × (Nat → Nat → Int64)) := if (I 52 1) ≤ l3 then (some (l2, I, J)) else (if (zv_X12_has l1 l3) = 0 then (rec 4 l1 (l2 ||| 0) (l3 + 1) I J) else (if ¬ (((7 * l3) + 2) < 0 ∨ 84 ≤ ((7 * l3) + 2).toNatClampNeg) then (rec 4 l1 (l2 ||| (zv_X12_field I l3 2)) (l3 + 1) I J) else none))
def zl_X12_personsOf (N : Nat) : Nat → Nat → Int32 → Int32 → Int32 → (Nat → Nat → Int32) → (Nat → Nat → Int64) → Option (Int32 × (Nat → Nat → Int32) × (Nat → Nat → Int64))
  | 0 => fun _ _ _ _ _ _ => none
  | n + 1 => fun pc l1 l2 l3 I J => if pc = 0 then zb_X12_personsOf_0 N (zl_X12_personsOf N n) l1 l2 l3 I J else (if pc = 4 then zb_X12_personsOf_4 N (zl_X12_personsOf N n) l1 l2 l3 I J else none)
def zf_X12_personsOf (N : Nat) (l1 : Int32) (I : Nat → Nat → Int32) (J : Nat → Nat → Int64) : Option (Int32 × (Nat → Nat → Int32) × (Nat → Nat → Int64)) := zl_X12_personsOf N N 0 l1 0 0 I J
theorem zq_X12_personsOf (F : zz_F) (d N : Nat) : ∀ n : Nat, (∀ (l1 : Int32) (l2 : Int32) (l3 : Int32) (I : Nat → Nat → Int32) (J : Nat → Nat → Int64) (r : Int32 × (Nat → Nat → Int32) × (Nat → Nat → Int64)), zl_X12_personsOf N n 0 l1 l2 l3 I J = some r → zz_run (d+1) 281 0 [some (.ref 52), some (.int (l1)), none, none] [] (zz_S F I J) (some (.int (r.1))) (zz_S F (I) (J))) ∧ (∀ (l1 : Int32) (l2 : Int32) (l3 : Int32) (I : Nat → Nat → Int32) (J : Nat → Nat → Int64) (r : Int32 × (Nat → Nat → Int32) × (Nat → Nat → Int64)), zl_X12_personsOf N n 4 l1 l2 l3 I J = some r → zz_run (d+1) 281 4 [some (.ref 52), some (.int (l1)), some (.int (l2)), some (.int (l3))] [] (zz_S F I J) (some (.int (r.1))) (zz_S F (I) (J))) := by
  intro n
  induction n with
  | zero => exact ⟨fun _ _ _ _ _ _ h => zz_no h, fun _ _ _ _ _ _ h => zz_no h⟩
  | succ n ih =>
    obtain ⟨ih0, ih4⟩ := ih
    refine ⟨?_, ?_⟩
    · intro l1 l2 l3 I J r hr
      replace hr : zb_X12_personsOf_0 N (zl_X12_personsOf N n) l1 l2 l3 I J = some r := hr
      unfold zb_X12_personsOf_0 at hr
      refine zs_281_0 ?_
      repeat' first | refine And.intro rfl ?_ | refine And.intro (Or.inl rfl) ?_ | refine And.intro (Or.inr rfl) ?_ | refine And.intro (Nat.le_of_ble_eq_true rfl) ?_ | refine And.intro (And.intro rfl rfl) ?_ | exact rfl
      exact zz_wk [true, true, true, true] rfl (ih4 _ _ _ _ _ _ hr)
    · intro l1 l2 l3 I J r hr
      replace hr : zb_X12_personsOf_4 N (zl_X12_personsOf N n) l1 l2 l3 I J = some r := hr
      unfold zb_X12_personsOf_4 at hr
      refine zs_281_4 ?_
      repeat' first | refine And.intro rfl ?_ | refine And.intro (Or.inl rfl) ?_ | refine And.intro (Or.inr rfl) ?_ | refine And.intro (Nat.le_of_ble_eq_true rfl) ?_ | refine And.intro (And.intro rfl rfl) ?_ | exact rfl
      refine And.intro (fun (h1 : (I 52 1) ≤ l3) => ?_) (fun (h1 : ¬ ((I 52 1) ≤ l3)) => ?_)
      · rw [if_pos h1] at hr
        refine zs_281_39 ?_
        repeat' first | refine And.intro rfl ?_ | refine And.intro (Or.inl rfl) ?_ | refine And.intro (Or.inr rfl) ?_ | refine And.intro (Nat.le_of_ble_eq_true rfl) ?_ | refine And.intro (And.intro rfl rfl) ?_ | exact rfl
        cases hr
        repeat' first | refine And.intro rfl ?_ | refine And.intro (Or.inl rfl) ?_ | refine And.intro (Or.inr rfl) ?_ | refine And.intro (Nat.le_of_ble_eq_true rfl) ?_ | refine And.intro (And.intro rfl rfl) ?_ | exact rfl
      · rw [if_neg h1] at hr
        repeat' first | refine And.intro rfl ?_ | refine And.intro (Or.inl rfl) ?_ | refine And.intro (Or.inr rfl) ?_ | refine And.intro (Nat.le_of_ble_eq_true rfl) ?_ | refine And.intro (And.intro rfl rfl) ?_ | exact rfl
        refine Exists.intro _ (Exists.intro _ (And.intro (zr_X12_has F I J d l1 l3) ?_))
        repeat' first | refine And.intro rfl ?_ | refine And.intro (Or.inl rfl) ?_ | refine And.intro (Or.inr rfl) ?_ | refine And.intro (Nat.le_of_ble_eq_true rfl) ?_ | refine And.intro (And.intro rfl rfl) ?_ | exact rfl
        refine And.intro (fun (h2 : (zv_X12_has l1 l3) = 0) => ?_) (fun (h2 : ¬ ((zv_X12_has l1 l3) = 0)) => ?_)
        · rw [if_pos h2] at hr
          refine zs_281_30 ?_
          repeat' first | refine And.intro rfl ?_ | refine And.intro (Or.inl rfl) ?_ | refine And.intro (Or.inr rfl) ?_ | refine And.intro (Nat.le_of_ble_eq_true rfl) ?_ | refine And.intro (And.intro rfl rfl) ?_ | exact rfl
          refine zs_281_31 ?_
          repeat' first | refine And.intro rfl ?_ | refine And.intro (Or.inl rfl) ?_ | refine And.intro (Or.inr rfl) ?_ | refine And.intro (Nat.le_of_ble_eq_true rfl) ?_ | refine And.intro (And.intro rfl rfl) ?_ | exact rfl
          exact zz_wk [true, true, true, true] rfl (ih4 _ _ _ _ _ _ hr)
        · rw [if_neg h2] at hr
          repeat' first | refine And.intro rfl ?_ | refine And.intro (Or.inl rfl) ?_ | refine And.intro (Or.inr rfl) ?_ | refine And.intro (Nat.le_of_ble_eq_true rfl) ?_ | refine And.intro (And.intro rfl rfl) ?_ | exact rfl
          have g1 : ¬ (((7 * l3) + 2) < 0 ∨ 84 ≤ ((7 * l3) + 2).toNatClampNeg) := zz_g hr
          replace hr := zz_gt hr
          refine Exists.intro _ (Exists.intro _ (And.intro (zr_X12_field F I J d l3 2 g1) ?_))
          repeat' first | refine And.intro rfl ?_ | refine And.intro (Or.inl rfl) ?_ | refine And.intro (Or.inr rfl) ?_ | refine And.intro (Nat.le_of_ble_eq_true rfl) ?_ | refine And.intro (And.intro rfl rfl) ?_ | exact rfl
          refine zs_281_31 ?_
          repeat' first | refine And.intro rfl ?_ | refine And.intro (Or.inl rfl) ?_ | refine And.intro (Or.inr rfl) ?_ | refine And.intro (Nat.le_of_ble_eq_true rfl) ?_ | refine And.intro (And.intro rfl rfl) ?_ | exact rfl
          exact zz_wk [true, true, true, true] rfl (ih4 _ _ _ _ _ _ hr)
theorem zr_X12_personsOf (F : zz_F) (I : Nat → Nat → Int32) (J : Nat → Nat → Int64) (d N : Nat) (l1 : Int32) (r : Int32 × (Nat → Nat → Int32) × (Nat → Nat → Int64)) (h : zf_X12_personsOf N l1 I J = some r) : zz_run (d+1) 281 0 [some (.ref 52), some (.int (l1)), none, none] [] (zz_S F I J) (some (.int (r.1))) (zz_S F (I) (J)) := (zq_X12_personsOf F d N N).1 l1 0 0 I J r h
def zb_X12_kings_0 (N : Nat) (rec : Nat → Int32 → Int32 → (Nat → Nat → Int32) → (Nat → Nat → Int64) → Option (Int32 × (Nat → Nat → Int32) × (Nat → Nat → Int64))) (l1 : Int32) (l2 : Int32) (I : Nat → Nat → Int32) (J : Nat → Nat → Int64) : Option (Int32 × (Nat → Nat → Int32) × (Nat → Nat → Int64)) := (zf_X12_whereBits N 0 (zz_u I 52 7 0) J).bind fun r1 => (zf_X12_ofPlay N r1.1 0 (zz_u I 52 7 0) J).bind fun r2 => (zf_X12_personsOf N r2.1 (zz_u I 52 7 0) J).bind fun r3 => (zf_X12_ofPlay N r1.1 1 (zz_u I 52 7 0) J).bind fun r4 => (zf_X12_personsOf N r4.1 (zz_u I 52 7 0) J).bind fun r5 => if ¬ (((zz_u (zz_u I 52 7 0) 52 6 0) 52 6) < 0 ∨ 20 ≤ ((zz_u (zz_u I 52 7 0) 52 6 0) 52 6).toNatClampNeg) then ((zf_X12_withPerson N r1.1 (r3.1 &&& r5.1) (zw_X12_tell (zz_u (zz_u I 52 7 0) 52 6 0) J ((zv_J6_bitCount (r3.1 &&& r5.1)).toInt64)) (zx_X12_tell (zz_u (zz_u I 52 7 0) 52 6 0) J ((zv_J6_bitCount (r3.1 &&& r5.1)).toInt64))).bind fun r7 => (zf_X12_minutesOf N r7.1 (zw_X12_tell (zz_u (zz_u I 52 7 0) 52 6 0) J ((zv_J6_bitCount (r3.1 &&& r5.1)).toInt64)) (zx_X12_tell (zz_u (zz_u I 52 7 0) 52 6 0) J ((zv_J6_bitCount (r3.1 &&& r5.1)).toInt64))).bind fun r8 => if ¬ (((zw_X12_tell (zz_u (zz_u I 52 7 0) 52 6 0) J ((zv_J6_bitCount (r3.1 &&& r5.1)).toInt64)) 52 6) < 0 ∨ 20 ≤ ((zw_X12_tell (zz_u (zz_u I 52 7 0) 52 6 0) J ((zv_J6_bitCount (r3.1 &&& r5.1)).toInt64)) 52 6).toNatClampNeg) then (some (r3.1 &&& r5.1, zw_X12_tell (zw_X12_tell (zz_u (zz_u I 52 7 0) 52 6 0) J ((zv_J6_bitCount (r3.1 &&& r5.1)).toInt64)) (zx_X12_tell (zz_u (zz_u I 52 7 0) 52 6 0) J ((zv_J6_bitCount (r3.1 &&& r5.1)).toInt64)) r8.1.toInt64, zx_X12_tell (zw_X12_tell (zz_u (zz_u I 52 7 0) 52 6 0) J ((zv_J6_bitCount (r3.1 &&& r5.1)).toInt64)) (zx_X12_tell (zz_u (zz_u I 52 7 0) 52 6 0) J ((zv_J6_bitCount (r3.1 &&& r5.1)).toInt64)) r8.1.toInt64)) else none) else none
def zl_X12_kings (N : Nat) : Nat → Nat → Int32 → Int32 → (Nat → Nat → Int32) → (Nat → Nat → Int64) → Option (Int32 × (Nat → Nat → Int32) × (Nat → Nat → Int64))
  | 0 => fun _ _ _ _ _ => none
  | n + 1 => fun pc l1 l2 I J => if pc = 0 then zb_X12_kings_0 N (zl_X12_kings N n) l1 l2 I J else none
def zf_X12_kings (N : Nat)  (I : Nat → Nat → Int32) (J : Nat → Nat → Int64) : Option (Int32 × (Nat → Nat → Int32) × (Nat → Nat → Int64)) := zl_X12_kings N N 0 0 0 I J
theorem zq_X12_kings (F : zz_F) (d N : Nat) : ∀ n : Nat, (∀ (l1 : Int32) (l2 : Int32) (I : Nat → Nat → Int32) (J : Nat → Nat → Int64) (r : Int32 × (Nat → Nat → Int32) × (Nat → Nat → Int64)), zl_X12_kings N n 0 l1 l2 I J = some r → zz_run (d+3) 282 0 [some (.ref 52), none, none] [] (zz_S F I J) (some (.int (r.1))) (zz_S F (r.2.1) (r.2.2))) := by
  intro n
  induction n with
  | zero => exact fun _ _ _ _ _ h => zz_no h
  | succ n ih =>
    have ih0 := ih
    skip
    · intro l1 l2 I J r hr
      replace hr : zb_X12_kings_0 N (zl_X12_kings N n) l1 l2 I J = some r := hr
      unfold zb_X12_kings_0 at hr
      refine zs_282_0 ?_
      repeat' first | refine And.intro rfl ?_ | refine And.intro (Or.inl rfl) ?_ | refine And.intro (Or.inr rfl) ?_ | refine And.intro (Nat.le_of_ble_eq_true rfl) ?_ | refine And.intro (And.intro rfl rfl) ?_ | exact rfl
      obtain ⟨r1, cr1, hr⟩ := Option.bind_eq_some_iff.mp hr
      refine Exists.intro _ (Exists.intro _ (And.intro (zr_X12_whereBits F (zz_u I 52 7 0) J (d+2) N 0 r1 cr1) ?_))
      repeat' first | refine And.intro rfl ?_ | refine And.intro (Or.inl rfl) ?_ | refine And.intro (Or.inr rfl) ?_ | refine And.intro (Nat.le_of_ble_eq_true rfl) ?_ | refine And.intro (And.intro rfl rfl) ?_ | exact rfl
      obtain ⟨r2, cr2, hr⟩ := Option.bind_eq_some_iff.mp hr
      refine Exists.intro _ (Exists.intro _ (And.intro (zr_X12_ofPlay F (zz_u I 52 7 0) J d N r1.1 0 r2 cr2) ?_))
      repeat' first | refine And.intro rfl ?_ | refine And.intro (Or.inl rfl) ?_ | refine And.intro (Or.inr rfl) ?_ | refine And.intro (Nat.le_of_ble_eq_true rfl) ?_ | refine And.intro (And.intro rfl rfl) ?_ | exact rfl
      obtain ⟨r3, cr3, hr⟩ := Option.bind_eq_some_iff.mp hr
      refine Exists.intro _ (Exists.intro _ (And.intro (zr_X12_personsOf F (zz_u I 52 7 0) J (d+1) N r2.1 r3 cr3) ?_))
      repeat' first | refine And.intro rfl ?_ | refine And.intro (Or.inl rfl) ?_ | refine And.intro (Or.inr rfl) ?_ | refine And.intro (Nat.le_of_ble_eq_true rfl) ?_ | refine And.intro (And.intro rfl rfl) ?_ | exact rfl
      obtain ⟨r4, cr4, hr⟩ := Option.bind_eq_some_iff.mp hr
      refine Exists.intro _ (Exists.intro _ (And.intro (zr_X12_ofPlay F (zz_u I 52 7 0) J d N r1.1 1 r4 cr4) ?_))
      repeat' first | refine And.intro rfl ?_ | refine And.intro (Or.inl rfl) ?_ | refine And.intro (Or.inr rfl) ?_ | refine And.intro (Nat.le_of_ble_eq_true rfl) ?_ | refine And.intro (And.intro rfl rfl) ?_ | exact rfl
      obtain ⟨r5, cr5, hr⟩ := Option.bind_eq_some_iff.mp hr
      refine Exists.intro _ (Exists.intro _ (And.intro (zr_X12_personsOf F (zz_u I 52 7 0) J (d+1) N r4.1 r5 cr5) ?_))
      repeat' first | refine And.intro rfl ?_ | refine And.intro (Or.inl rfl) ?_ | refine And.intro (Or.inr rfl) ?_ | refine And.intro (Nat.le_of_ble_eq_true rfl) ?_ | refine And.intro (And.intro rfl rfl) ?_ | exact rfl
      refine Exists.intro _ (Exists.intro _ (And.intro (zr_J6_bitCount F (zz_u (zz_u I 52 7 0) 52 6 0) J (d+2) (r3.1 &&& r5.1)) ?_))
      repeat' first | refine And.intro rfl ?_ | refine And.intro (Or.inl rfl) ?_ | refine And.intro (Or.inr rfl) ?_ | refine And.intro (Nat.le_of_ble_eq_true rfl) ?_ | refine And.intro (And.intro rfl rfl) ?_ | exact rfl
      have g6 : ¬ (((zz_u (zz_u I 52 7 0) 52 6 0) 52 6) < 0 ∨ 20 ≤ ((zz_u (zz_u I 52 7 0) 52 6 0) 52 6).toNatClampNeg) := zz_g hr
      replace hr := zz_gt hr
      refine Exists.intro _ (Exists.intro _ (And.intro (zr_X12_tell F (zz_u (zz_u I 52 7 0) 52 6 0) J (d+2) ((zv_J6_bitCount (r3.1 &&& r5.1)).toInt64) g6) ?_))
      repeat' first | refine And.intro rfl ?_ | refine And.intro (Or.inl rfl) ?_ | refine And.intro (Or.inr rfl) ?_ | refine And.intro (Nat.le_of_ble_eq_true rfl) ?_ | refine And.intro (And.intro rfl rfl) ?_ | exact rfl
      obtain ⟨r7, cr7, hr⟩ := Option.bind_eq_some_iff.mp hr
      refine Exists.intro _ (Exists.intro _ (And.intro (zr_X12_withPerson F (zw_X12_tell (zz_u (zz_u I 52 7 0) 52 6 0) J ((zv_J6_bitCount (r3.1 &&& r5.1)).toInt64)) (zx_X12_tell (zz_u (zz_u I 52 7 0) 52 6 0) J ((zv_J6_bitCount (r3.1 &&& r5.1)).toInt64)) (d+1) N r1.1 (r3.1 &&& r5.1) r7 cr7) ?_))
      repeat' first | refine And.intro rfl ?_ | refine And.intro (Or.inl rfl) ?_ | refine And.intro (Or.inr rfl) ?_ | refine And.intro (Nat.le_of_ble_eq_true rfl) ?_ | refine And.intro (And.intro rfl rfl) ?_ | exact rfl
      obtain ⟨r8, cr8, hr⟩ := Option.bind_eq_some_iff.mp hr
      refine Exists.intro _ (Exists.intro _ (And.intro (zr_X12_minutesOf F (zw_X12_tell (zz_u (zz_u I 52 7 0) 52 6 0) J ((zv_J6_bitCount (r3.1 &&& r5.1)).toInt64)) (zx_X12_tell (zz_u (zz_u I 52 7 0) 52 6 0) J ((zv_J6_bitCount (r3.1 &&& r5.1)).toInt64)) (d+1) N r7.1 r8 cr8) ?_))
      repeat' first | refine And.intro rfl ?_ | refine And.intro (Or.inl rfl) ?_ | refine And.intro (Or.inr rfl) ?_ | refine And.intro (Nat.le_of_ble_eq_true rfl) ?_ | refine And.intro (And.intro rfl rfl) ?_ | exact rfl
      have g9 : ¬ (((zw_X12_tell (zz_u (zz_u I 52 7 0) 52 6 0) J ((zv_J6_bitCount (r3.1 &&& r5.1)).toInt64)) 52 6) < 0 ∨ 20 ≤ ((zw_X12_tell (zz_u (zz_u I 52 7 0) 52 6 0) J ((zv_J6_bitCount (r3.1 &&& r5.1)).toInt64)) 52 6).toNatClampNeg) := zz_g hr
      replace hr := zz_gt hr
      refine Exists.intro _ (Exists.intro _ (And.intro (zr_X12_tell F (zw_X12_tell (zz_u (zz_u I 52 7 0) 52 6 0) J ((zv_J6_bitCount (r3.1 &&& r5.1)).toInt64)) (zx_X12_tell (zz_u (zz_u I 52 7 0) 52 6 0) J ((zv_J6_bitCount (r3.1 &&& r5.1)).toInt64)) (d+2) r8.1.toInt64 g9) ?_))
      repeat' first | refine And.intro rfl ?_ | refine And.intro (Or.inl rfl) ?_ | refine And.intro (Or.inr rfl) ?_ | refine And.intro (Nat.le_of_ble_eq_true rfl) ?_ | refine And.intro (And.intro rfl rfl) ?_ | exact rfl
      cases hr
      repeat' first | refine And.intro rfl ?_ | refine And.intro (Or.inl rfl) ?_ | refine And.intro (Or.inr rfl) ?_ | refine And.intro (Nat.le_of_ble_eq_true rfl) ?_ | refine And.intro (And.intro rfl rfl) ?_ | exact rfl
theorem zr_X12_kings (F : zz_F) (I : Nat → Nat → Int32) (J : Nat → Nat → Int64) (d N : Nat)  (r : Int32 × (Nat → Nat → Int32) × (Nat → Nat → Int64)) (h : zf_X12_kings N  I J = some r) : zz_run (d+3) 282 0 [some (.ref 52), none, none] [] (zz_S F I J) (some (.int (r.1))) (zz_S F (r.2.1) (r.2.2)) := (zq_X12_kings F d N N) 0 0 I J r h
def zb_X12_stand_0 (N : Nat) (rec : Nat → Int32 → Int32 → Int32 → (Nat → Nat → Int32) → (Nat → Nat → Int64) → Option (Int32 × (Nat → Nat → Int32) × (Nat → Nat → Int64))) (l1 : Int32) (l2 : Int32) (l3 : Int32) (I : Nat → Nat → Int32) (J : Nat → Nat → Int64) : Option (Int32 × (Nat → Nat → Int32) × (Nat → Nat → Int64)) := rec 12 15 0 0 (zz_u I 52 7 0) J
def zb_X12_stand_12 (N : Nat) (rec : Nat → Int32 → Int32 → Int32 → (Nat → Nat → Int32) → (Nat → Nat → Int64) → Option (Int32 × (Nat → Nat → Int32) × (Nat → Nat → Int64))) (l1 : Int32) (l2 : Int32) (l3 : Int32) (I : Nat → Nat → Int32) (J : Nat → Nat → Int64) : Option (Int32 × (Nat → Nat → Int32) × (Nat → Nat → Int64)) := if (I 52 1) ≤ l3 then (if ¬ (((zz_u I 52 6 0) 52 6) < 0 ∨ 20 ≤ ((zz_u I 52 6 0) 52 6).toNatClampNeg) then (some (l1, zw_X12_tell (zz_u I 52 6 0) J ((15 &&& (l2 ^^^ ((-1)))).toInt64), zx_X12_tell (zz_u I 52 6 0) J ((15 &&& (l2 ^^^ ((-1)))).toInt64))) else none) else (if ¬ (l3 < 0 ∨ 18 ≤ l3.toNatClampNeg) then (if (I 53 l3.toNatClampNeg) = 0 then (if ¬ (((7 * l3) + 3) < 0 ∨ 84 ≤ ((7 * l3) + 3).toNatClampNeg) then (rec 12 (l1 &&& (zv_X12_field I l3 3)) (l2 ||| (zv_X12_field I l3 3)) (l3 + 1) I J) else none) else (rec 12 l1 l2 (l3 + 1) I J)) else none)
def zl_X12_stand (N : Nat) : Nat → Nat → Int32 → Int32 → Int32 → (Nat → Nat → Int32) → (Nat → Nat → Int64) → Option (Int32 × (Nat → Nat → Int32) × (Nat → Nat → Int64))
  | 0 => fun _ _ _ _ _ _ => none
  | n + 1 => fun pc l1 l2 l3 I J => if pc = 0 then zb_X12_stand_0 N (zl_X12_stand N n) l1 l2 l3 I J else (if pc = 12 then zb_X12_stand_12 N (zl_X12_stand N n) l1 l2 l3 I J else none)
def zf_X12_stand (N : Nat)  (I : Nat → Nat → Int32) (J : Nat → Nat → Int64) : Option (Int32 × (Nat → Nat → Int32) × (Nat → Nat → Int64)) := zl_X12_stand N N 0 0 0 0 I J
theorem zq_X12_stand (F : zz_F) (d N : Nat) : ∀ n : Nat, (∀ (l1 : Int32) (l2 : Int32) (l3 : Int32) (I : Nat → Nat → Int32) (J : Nat → Nat → Int64) (r : Int32 × (Nat → Nat → Int32) × (Nat → Nat → Int64)), zl_X12_stand N n 0 l1 l2 l3 I J = some r → zz_run (d+1) 283 0 [some (.ref 52), none, none, none] [] (zz_S F I J) (some (.int (r.1))) (zz_S F (r.2.1) (r.2.2))) ∧ (∀ (l1 : Int32) (l2 : Int32) (l3 : Int32) (I : Nat → Nat → Int32) (J : Nat → Nat → Int64) (r : Int32 × (Nat → Nat → Int32) × (Nat → Nat → Int64)), zl_X12_stand N n 12 l1 l2 l3 I J = some r → zz_run (d+1) 283 12 [some (.ref 52), some (.int (l1)), some (.int (l2)), some (.int (l3))] [] (zz_S F I J) (some (.int (r.1))) (zz_S F (r.2.1) (r.2.2))) := by
  intro n
  induction n with
  | zero => exact ⟨fun _ _ _ _ _ _ h => zz_no h, fun _ _ _ _ _ _ h => zz_no h⟩
  | succ n ih =>
    obtain ⟨ih0, ih12⟩ := ih
    refine ⟨?_, ?_⟩
    · intro l1 l2 l3 I J r hr
      replace hr : zb_X12_stand_0 N (zl_X12_stand N n) l1 l2 l3 I J = some r := hr
      unfold zb_X12_stand_0 at hr
      refine zs_283_0 ?_
      repeat' first | refine And.intro rfl ?_ | refine And.intro (Or.inl rfl) ?_ | refine And.intro (Or.inr rfl) ?_ | refine And.intro (Nat.le_of_ble_eq_true rfl) ?_ | refine And.intro (And.intro rfl rfl) ?_ | exact rfl
      exact zz_wk [true, true, true, true] rfl (ih12 _ _ _ _ _ _ hr)
    · intro l1 l2 l3 I J r hr
      replace hr : zb_X12_stand_12 N (zl_X12_stand N n) l1 l2 l3 I J = some r := hr
      unfold zb_X12_stand_12 at hr
      refine zs_283_12 ?_
      repeat' first | refine And.intro rfl ?_ | refine And.intro (Or.inl rfl) ?_ | refine And.intro (Or.inr rfl) ?_ | refine And.intro (Nat.le_of_ble_eq_true rfl) ?_ | refine And.intro (And.intro rfl rfl) ?_ | exact rfl
      refine And.intro (fun (h1 : (I 52 1) ≤ l3) => ?_) (fun (h1 : ¬ ((I 52 1) ≤ l3)) => ?_)
      · rw [if_pos h1] at hr
        refine zs_283_56 ?_
        repeat' first | refine And.intro rfl ?_ | refine And.intro (Or.inl rfl) ?_ | refine And.intro (Or.inr rfl) ?_ | refine And.intro (Nat.le_of_ble_eq_true rfl) ?_ | refine And.intro (And.intro rfl rfl) ?_ | exact rfl
        have g1 : ¬ (((zz_u I 52 6 0) 52 6) < 0 ∨ 20 ≤ ((zz_u I 52 6 0) 52 6).toNatClampNeg) := zz_g hr
        replace hr := zz_gt hr
        refine Exists.intro _ (Exists.intro _ (And.intro (zr_X12_tell F (zz_u I 52 6 0) J d ((15 &&& (l2 ^^^ ((-1)))).toInt64) g1) ?_))
        repeat' first | refine And.intro rfl ?_ | refine And.intro (Or.inl rfl) ?_ | refine And.intro (Or.inr rfl) ?_ | refine And.intro (Nat.le_of_ble_eq_true rfl) ?_ | refine And.intro (And.intro rfl rfl) ?_ | exact rfl
        cases hr
        repeat' first | refine And.intro rfl ?_ | refine And.intro (Or.inl rfl) ?_ | refine And.intro (Or.inr rfl) ?_ | refine And.intro (Nat.le_of_ble_eq_true rfl) ?_ | refine And.intro (And.intro rfl rfl) ?_ | exact rfl
      · rw [if_neg h1] at hr
        repeat' first | refine And.intro rfl ?_ | refine And.intro (Or.inl rfl) ?_ | refine And.intro (Or.inr rfl) ?_ | refine And.intro (Nat.le_of_ble_eq_true rfl) ?_ | refine And.intro (And.intro rfl rfl) ?_ | exact rfl
        have g2 : ¬ (l3 < 0 ∨ 18 ≤ l3.toNatClampNeg) := zz_g hr
        replace hr := zz_gt hr
        refine And.intro (g2) ?_
        repeat' first | refine And.intro rfl ?_ | refine And.intro (Or.inl rfl) ?_ | refine And.intro (Or.inr rfl) ?_ | refine And.intro (Nat.le_of_ble_eq_true rfl) ?_ | refine And.intro (And.intro rfl rfl) ?_ | exact rfl
        refine And.intro (fun (h2 : (I 53 l3.toNatClampNeg) = 0) => ?_) (fun (h2 : ¬ ((I 53 l3.toNatClampNeg) = 0)) => ?_)
        · rw [if_pos h2] at hr
          refine zs_283_32 ?_
          repeat' first | refine And.intro rfl ?_ | refine And.intro (Or.inl rfl) ?_ | refine And.intro (Or.inr rfl) ?_ | refine And.intro (Nat.le_of_ble_eq_true rfl) ?_ | refine And.intro (And.intro rfl rfl) ?_ | exact rfl
          have g3 : ¬ (((7 * l3) + 3) < 0 ∨ 84 ≤ ((7 * l3) + 3).toNatClampNeg) := zz_g hr
          replace hr := zz_gt hr
          refine Exists.intro _ (Exists.intro _ (And.intro (zr_X12_field F I J d l3 3 g3) ?_))
          repeat' first | refine And.intro rfl ?_ | refine And.intro (Or.inl rfl) ?_ | refine And.intro (Or.inr rfl) ?_ | refine And.intro (Nat.le_of_ble_eq_true rfl) ?_ | refine And.intro (And.intro rfl rfl) ?_ | exact rfl
          refine Exists.intro _ (Exists.intro _ (And.intro (zr_X12_field F I J d l3 3 g3) ?_))
          repeat' first | refine And.intro rfl ?_ | refine And.intro (Or.inl rfl) ?_ | refine And.intro (Or.inr rfl) ?_ | refine And.intro (Nat.le_of_ble_eq_true rfl) ?_ | refine And.intro (And.intro rfl rfl) ?_ | exact rfl
          refine zs_283_50 ?_
          repeat' first | refine And.intro rfl ?_ | refine And.intro (Or.inl rfl) ?_ | refine And.intro (Or.inr rfl) ?_ | refine And.intro (Nat.le_of_ble_eq_true rfl) ?_ | refine And.intro (And.intro rfl rfl) ?_ | exact rfl
          exact zz_wk [true, true, true, true] rfl (ih12 _ _ _ _ _ _ hr)
        · rw [if_neg h2] at hr
          repeat' first | refine And.intro rfl ?_ | refine And.intro (Or.inl rfl) ?_ | refine And.intro (Or.inr rfl) ?_ | refine And.intro (Nat.le_of_ble_eq_true rfl) ?_ | refine And.intro (And.intro rfl rfl) ?_ | exact rfl
          refine zs_283_50 ?_
          repeat' first | refine And.intro rfl ?_ | refine And.intro (Or.inl rfl) ?_ | refine And.intro (Or.inr rfl) ?_ | refine And.intro (Nat.le_of_ble_eq_true rfl) ?_ | refine And.intro (And.intro rfl rfl) ?_ | exact rfl
          exact zz_wk [true, true, true, true] rfl (ih12 _ _ _ _ _ _ hr)
theorem zr_X12_stand (F : zz_F) (I : Nat → Nat → Int32) (J : Nat → Nat → Int64) (d N : Nat)  (r : Int32 × (Nat → Nat → Int32) × (Nat → Nat → Int64)) (h : zf_X12_stand N  I J = some r) : zz_run (d+1) 283 0 [some (.ref 52), none, none, none] [] (zz_S F I J) (some (.int (r.1))) (zz_S F (r.2.1) (r.2.2)) := (zq_X12_stand F d N N).1 0 0 0 I J r h
def zb_X12_lamps_0 (N : Nat) (rec : Nat → Int32 → Int32 → Int32 → Int32 → (Nat → Nat → Int32) → (Nat → Nat → Int64) → Option (Int32 × (Nat → Nat → Int32) × (Nat → Nat → Int64))) (l1 : Int32) (l2 : Int32) (l3 : Int32) (l4 : Int32) (I : Nat → Nat → Int32) (J : Nat → Nat → Int64) : Option (Int32 × (Nat → Nat → Int32) × (Nat → Nat → Int64)) := if ¬ (zv_X12_in l1 1 40) = 0 then (rec 21 l1 0 1 0 (zz_u I 52 7 0) J) else (some ((-1), zz_u I 52 7 0, J))
def zb_X12_lamps_21 (N : Nat) (rec : Nat → Int32 → Int32 → Int32 → Int32 → (Nat → Nat → Int32) → (Nat → Nat → Int64) → Option (Int32 × (Nat → Nat → Int32) × (Nat → Nat → Int64))) (l1 : Int32) (l2 : Int32) (l3 : Int32) (l4 : Int32) (I : Nat → Nat → Int32) (J : Nat → Nat → Int64) : Option (Int32 × (Nat → Nat → Int32) × (Nat → Nat → Int64)) := if l1 < l3 then (if ¬ (((zz_u I 52 6 0) 52 6) < 0 ∨ 20 ≤ ((zz_u I 52 6 0) 52 6).toNatClampNeg) then (if ¬ (l1 < 0 ∨ 41 ≤ l1.toNatClampNeg) then (some (100 + ((zw_X12_tell (zz_u I 52 6 0) J l2.toInt64) 79 l1.toNatClampNeg), zw_X12_tell (zz_u I 52 6 0) J l2.toInt64, zx_X12_tell (zz_u I 52 6 0) J l2.toInt64)) else none) else none) else (if ¬ (l3 < 0 ∨ 41 ≤ l3.toNatClampNeg) then (rec 38 l1 l2 l3 1 (zz_u I 79 l3.toNatClampNeg ((-1000000))) J) else none)
def zb_X12_lamps_38 (N : Nat) (rec : Nat → Int32 → Int32 → Int32 → Int32 → (Nat → Nat → Int32) → (Nat → Nat → Int64) → Option (Int32 × (Nat → Nat → Int32) × (Nat → Nat → Int64))) (l1 : Int32) (l2 : Int32) (l3 : Int32) (l4 : Int32) (I : Nat → Nat → Int32) (J : Nat → Nat → Int64) : Option (Int32 × (Nat → Nat → Int32) × (Nat → Nat → Int64)) := if (zz_min 3 l3) < l4 then (rec 21 l1 l2 (l3 + 1) 0 I J) else (if (¬ l4 = l3) → (¬ ((l3 - l4) < 0 ∨ 41 ≤ (l3 - l4).toNatClampNeg)) then (if ¬ (l3 < 0 ∨ 41 ≤ l3.toNatClampNeg) then (if (I 79 l3.toNatClampNeg) < (zv_X12_leadBy I l3 l4) then (rec 83 l1 l4 l3 l4 (zz_u I 79 l3.toNatClampNeg (zv_X12_leadBy I l3 l4)) J) else (rec 83 l1 l2 l3 l4 I J)) else none) else none)
def zb_X12_lamps_83 (N : Nat) (rec : Nat → Int32 → Int32 → Int32 → Int32 → (Nat → Nat → Int32) → (Nat → Nat → Int64) → Option (Int32 × (Nat → Nat → Int32) × (Nat → Nat → Int64))) (l1 : Int32) (l2 : Int32) (l3 : Int32) (l4 : Int32) (I : Nat → Nat → Int32) (J : Nat → Nat → Int64) : Option (Int32 × (Nat → Nat → Int32) × (Nat → Nat → Int64)) := rec 38 l1 l2 l3 (l4 + 1) I J
def zl_X12_lamps (N : Nat) : Nat → Nat → Int32 → Int32 → Int32 → Int32 → (Nat → Nat → Int32) → (Nat → Nat → Int64) → Option (Int32 × (Nat → Nat → Int32) × (Nat → Nat → Int64))
  | 0 => fun _ _ _ _ _ _ _ => none
  | n + 1 => fun pc l1 l2 l3 l4 I J => if pc = 0 then zb_X12_lamps_0 N (zl_X12_lamps N n) l1 l2 l3 l4 I J else (if pc = 21 then zb_X12_lamps_21 N (zl_X12_lamps N n) l1 l2 l3 l4 I J else (if pc = 38 then zb_X12_lamps_38 N (zl_X12_lamps N n) l1 l2 l3 l4 I J else (if pc = 83 then zb_X12_lamps_83 N (zl_X12_lamps N n) l1 l2 l3 l4 I J else none)))
def zf_X12_lamps (N : Nat) (l1 : Int32) (I : Nat → Nat → Int32) (J : Nat → Nat → Int64) : Option (Int32 × (Nat → Nat → Int32) × (Nat → Nat → Int64)) := zl_X12_lamps N N 0 l1 0 0 0 I J
theorem zq_X12_lamps (F : zz_F) (d N : Nat) : ∀ n : Nat, (∀ (l1 : Int32) (l2 : Int32) (l3 : Int32) (l4 : Int32) (I : Nat → Nat → Int32) (J : Nat → Nat → Int64) (r : Int32 × (Nat → Nat → Int32) × (Nat → Nat → Int64)), zl_X12_lamps N n 0 l1 l2 l3 l4 I J = some r → zz_run (d+1) 294 0 [some (.ref 52), some (.int (l1)), none, none, none] [] (zz_S F I J) (some (.int (r.1))) (zz_S F (r.2.1) (r.2.2))) ∧ (∀ (l1 : Int32) (l2 : Int32) (l3 : Int32) (l4 : Int32) (I : Nat → Nat → Int32) (J : Nat → Nat → Int64) (r : Int32 × (Nat → Nat → Int32) × (Nat → Nat → Int64)), zl_X12_lamps N n 21 l1 l2 l3 l4 I J = some r → zz_run (d+1) 294 21 [some (.ref 52), some (.int (l1)), some (.int (l2)), some (.int (l3)), none] [] (zz_S F I J) (some (.int (r.1))) (zz_S F (r.2.1) (r.2.2))) ∧ (∀ (l1 : Int32) (l2 : Int32) (l3 : Int32) (l4 : Int32) (I : Nat → Nat → Int32) (J : Nat → Nat → Int64) (r : Int32 × (Nat → Nat → Int32) × (Nat → Nat → Int64)), zl_X12_lamps N n 38 l1 l2 l3 l4 I J = some r → zz_run (d+1) 294 38 [some (.ref 52), some (.int (l1)), some (.int (l2)), some (.int (l3)), some (.int (l4))] [] (zz_S F I J) (some (.int (r.1))) (zz_S F (r.2.1) (r.2.2))) ∧ (∀ (l1 : Int32) (l2 : Int32) (l3 : Int32) (l4 : Int32) (I : Nat → Nat → Int32) (J : Nat → Nat → Int64) (r : Int32 × (Nat → Nat → Int32) × (Nat → Nat → Int64)), zl_X12_lamps N n 83 l1 l2 l3 l4 I J = some r → zz_run (d+1) 294 83 [some (.ref 52), some (.int (l1)), some (.int (l2)), some (.int (l3)), some (.int (l4))] [] (zz_S F I J) (some (.int (r.1))) (zz_S F (r.2.1) (r.2.2))) := by
  intro n
  induction n with
  | zero => exact ⟨fun _ _ _ _ _ _ _ h => zz_no h, fun _ _ _ _ _ _ _ h => zz_no h, fun _ _ _ _ _ _ _ h => zz_no h, fun _ _ _ _ _ _ _ h => zz_no h⟩
  | succ n ih =>
    obtain ⟨ih0, ih21, ih38, ih83⟩ := ih
    refine ⟨?_, ?_, ?_, ?_⟩
    · intro l1 l2 l3 l4 I J r hr
      replace hr : zb_X12_lamps_0 N (zl_X12_lamps N n) l1 l2 l3 l4 I J = some r := hr
      unfold zb_X12_lamps_0 at hr
      refine zs_294_0 ?_
      repeat' first | refine And.intro rfl ?_ | refine And.intro (Or.inl rfl) ?_ | refine And.intro (Or.inr rfl) ?_ | refine And.intro (Nat.le_of_ble_eq_true rfl) ?_ | refine And.intro (And.intro rfl rfl) ?_ | exact rfl
      refine Exists.intro _ (Exists.intro _ (And.intro (zr_X12_in F (zz_u I 52 7 0) J d l1 1 40) ?_))
      repeat' first | refine And.intro rfl ?_ | refine And.intro (Or.inl rfl) ?_ | refine And.intro (Or.inr rfl) ?_ | refine And.intro (Nat.le_of_ble_eq_true rfl) ?_ | refine And.intro (And.intro rfl rfl) ?_ | exact rfl
      refine And.intro (fun (h1 : ¬ (zv_X12_in l1 1 40) = 0) => ?_) (fun (h1 : ¬ (¬ (zv_X12_in l1 1 40) = 0)) => ?_)
      · rw [if_pos h1] at hr
        refine zs_294_17 ?_
        repeat' first | refine And.intro rfl ?_ | refine And.intro (Or.inl rfl) ?_ | refine And.intro (Or.inr rfl) ?_ | refine And.intro (Nat.le_of_ble_eq_true rfl) ?_ | refine And.intro (And.intro rfl rfl) ?_ | exact rfl
        exact zz_wk [true, true, true, true, false] rfl (ih21 _ _ _ _ _ _ _ hr)
      · rw [if_neg h1] at hr
        repeat' first | refine And.intro rfl ?_ | refine And.intro (Or.inl rfl) ?_ | refine And.intro (Or.inr rfl) ?_ | refine And.intro (Nat.le_of_ble_eq_true rfl) ?_ | refine And.intro (And.intro rfl rfl) ?_ | exact rfl
        cases hr
        repeat' first | refine And.intro rfl ?_ | refine And.intro (Or.inl rfl) ?_ | refine And.intro (Or.inr rfl) ?_ | refine And.intro (Nat.le_of_ble_eq_true rfl) ?_ | refine And.intro (And.intro rfl rfl) ?_ | exact rfl
    · intro l1 l2 l3 l4 I J r hr
      replace hr : zb_X12_lamps_21 N (zl_X12_lamps N n) l1 l2 l3 l4 I J = some r := hr
      unfold zb_X12_lamps_21 at hr
      refine zs_294_21 ?_
      repeat' first | refine And.intro rfl ?_ | refine And.intro (Or.inl rfl) ?_ | refine And.intro (Or.inr rfl) ?_ | refine And.intro (Nat.le_of_ble_eq_true rfl) ?_ | refine And.intro (And.intro rfl rfl) ?_ | exact rfl
      refine And.intro (fun (h2 : l1 < l3) => ?_) (fun (h2 : ¬ (l1 < l3)) => ?_)
      · rw [if_pos h2] at hr
        refine zs_294_95 ?_
        repeat' first | refine And.intro rfl ?_ | refine And.intro (Or.inl rfl) ?_ | refine And.intro (Or.inr rfl) ?_ | refine And.intro (Nat.le_of_ble_eq_true rfl) ?_ | refine And.intro (And.intro rfl rfl) ?_ | exact rfl
        have g1 : ¬ (((zz_u I 52 6 0) 52 6) < 0 ∨ 20 ≤ ((zz_u I 52 6 0) 52 6).toNatClampNeg) := zz_g hr
        replace hr := zz_gt hr
        refine Exists.intro _ (Exists.intro _ (And.intro (zr_X12_tell F (zz_u I 52 6 0) J d l2.toInt64 g1) ?_))
        repeat' first | refine And.intro rfl ?_ | refine And.intro (Or.inl rfl) ?_ | refine And.intro (Or.inr rfl) ?_ | refine And.intro (Nat.le_of_ble_eq_true rfl) ?_ | refine And.intro (And.intro rfl rfl) ?_ | exact rfl
        have g2 : ¬ (l1 < 0 ∨ 41 ≤ l1.toNatClampNeg) := zz_g hr
        replace hr := zz_gt hr
        refine And.intro (g2) ?_
        repeat' first | refine And.intro rfl ?_ | refine And.intro (Or.inl rfl) ?_ | refine And.intro (Or.inr rfl) ?_ | refine And.intro (Nat.le_of_ble_eq_true rfl) ?_ | refine And.intro (And.intro rfl rfl) ?_ | exact rfl
        cases hr
        repeat' first | refine And.intro rfl ?_ | refine And.intro (Or.inl rfl) ?_ | refine And.intro (Or.inr rfl) ?_ | refine And.intro (Nat.le_of_ble_eq_true rfl) ?_ | refine And.intro (And.intro rfl rfl) ?_ | exact rfl
      · rw [if_neg h2] at hr
        repeat' first | refine And.intro rfl ?_ | refine And.intro (Or.inl rfl) ?_ | refine And.intro (Or.inr rfl) ?_ | refine And.intro (Nat.le_of_ble_eq_true rfl) ?_ | refine And.intro (And.intro rfl rfl) ?_ | exact rfl
        have g3 : ¬ (l3 < 0 ∨ 41 ≤ l3.toNatClampNeg) := zz_g hr
        replace hr := zz_gt hr
        refine And.intro (g3) ?_
        repeat' first | refine And.intro rfl ?_ | refine And.intro (Or.inl rfl) ?_ | refine And.intro (Or.inr rfl) ?_ | refine And.intro (Nat.le_of_ble_eq_true rfl) ?_ | refine And.intro (And.intro rfl rfl) ?_ | exact rfl
        exact zz_wk [true, true, true, true, true] rfl (ih38 _ _ _ _ _ _ _ hr)
    · intro l1 l2 l3 l4 I J r hr
      replace hr : zb_X12_lamps_38 N (zl_X12_lamps N n) l1 l2 l3 l4 I J = some r := hr
      unfold zb_X12_lamps_38 at hr
      refine zs_294_38 ?_
      repeat' first | refine And.intro rfl ?_ | refine And.intro (Or.inl rfl) ?_ | refine And.intro (Or.inr rfl) ?_ | refine And.intro (Nat.le_of_ble_eq_true rfl) ?_ | refine And.intro (And.intro rfl rfl) ?_ | exact rfl
      refine Exists.intro _ (Exists.intro _ (And.intro (zr_min F I J d 3 l3) ?_))
      repeat' first | refine And.intro rfl ?_ | refine And.intro (Or.inl rfl) ?_ | refine And.intro (Or.inr rfl) ?_ | refine And.intro (Nat.le_of_ble_eq_true rfl) ?_ | refine And.intro (And.intro rfl rfl) ?_ | exact rfl
      refine And.intro (fun (h3 : (zz_min 3 l3) < l4) => ?_) (fun (h3 : ¬ ((zz_min 3 l3) < l4)) => ?_)
      · rw [if_pos h3] at hr
        refine zs_294_89 ?_
        repeat' first | refine And.intro rfl ?_ | refine And.intro (Or.inl rfl) ?_ | refine And.intro (Or.inr rfl) ?_ | refine And.intro (Nat.le_of_ble_eq_true rfl) ?_ | refine And.intro (And.intro rfl rfl) ?_ | exact rfl
        exact zz_wk [true, true, true, true, false] rfl (ih21 _ _ _ _ _ _ _ hr)
      · rw [if_neg h3] at hr
        repeat' first | refine And.intro rfl ?_ | refine And.intro (Or.inl rfl) ?_ | refine And.intro (Or.inr rfl) ?_ | refine And.intro (Nat.le_of_ble_eq_true rfl) ?_ | refine And.intro (And.intro rfl rfl) ?_ | exact rfl
        have g4 : (¬ l4 = l3) → (¬ ((l3 - l4) < 0 ∨ 41 ≤ (l3 - l4).toNatClampNeg)) := zz_g hr
        replace hr := zz_gt hr
        refine Exists.intro _ (Exists.intro _ (And.intro (zr_X12_leadBy F I J d l3 l4 g4) ?_))
        repeat' first | refine And.intro rfl ?_ | refine And.intro (Or.inl rfl) ?_ | refine And.intro (Or.inr rfl) ?_ | refine And.intro (Nat.le_of_ble_eq_true rfl) ?_ | refine And.intro (And.intro rfl rfl) ?_ | exact rfl
        have g5 : ¬ (l3 < 0 ∨ 41 ≤ l3.toNatClampNeg) := zz_g hr
        replace hr := zz_gt hr
        refine And.intro (g5) ?_
        repeat' first | refine And.intro rfl ?_ | refine And.intro (Or.inl rfl) ?_ | refine And.intro (Or.inr rfl) ?_ | refine And.intro (Nat.le_of_ble_eq_true rfl) ?_ | refine And.intro (And.intro rfl rfl) ?_ | exact rfl
        refine And.intro (fun (h4 : (I 79 l3.toNatClampNeg) < (zv_X12_leadBy I l3 l4)) => ?_) (fun (h4 : ¬ ((I 79 l3.toNatClampNeg) < (zv_X12_leadBy I l3 l4))) => ?_)
        · rw [if_pos h4] at hr
          refine zs_294_67 ?_
          repeat' first | refine And.intro rfl ?_ | refine And.intro (Or.inl rfl) ?_ | refine And.intro (Or.inr rfl) ?_ | refine And.intro (Nat.le_of_ble_eq_true rfl) ?_ | refine And.intro (And.intro rfl rfl) ?_ | exact rfl
          refine Exists.intro _ (Exists.intro _ (And.intro (zr_X12_leadBy F I J d l3 l4 g4) ?_))
          repeat' first | refine And.intro rfl ?_ | refine And.intro (Or.inl rfl) ?_ | refine And.intro (Or.inr rfl) ?_ | refine And.intro (Nat.le_of_ble_eq_true rfl) ?_ | refine And.intro (And.intro rfl rfl) ?_ | exact rfl
          refine And.intro (g5) ?_
          repeat' first | refine And.intro rfl ?_ | refine And.intro (Or.inl rfl) ?_ | refine And.intro (Or.inr rfl) ?_ | refine And.intro (Nat.le_of_ble_eq_true rfl) ?_ | refine And.intro (And.intro rfl rfl) ?_ | exact rfl
          exact zz_wk [true, true, true, true, true] rfl (ih83 _ _ _ _ _ _ _ hr)
        · rw [if_neg h4] at hr
          repeat' first | refine And.intro rfl ?_ | refine And.intro (Or.inl rfl) ?_ | refine And.intro (Or.inr rfl) ?_ | refine And.intro (Nat.le_of_ble_eq_true rfl) ?_ | refine And.intro (And.intro rfl rfl) ?_ | exact rfl
          exact zz_wk [true, true, true, true, true] rfl (ih83 _ _ _ _ _ _ _ hr)
    · intro l1 l2 l3 l4 I J r hr
      replace hr : zb_X12_lamps_83 N (zl_X12_lamps N n) l1 l2 l3 l4 I J = some r := hr
      unfold zb_X12_lamps_83 at hr
      refine zs_294_83 ?_
      repeat' first | refine And.intro rfl ?_ | refine And.intro (Or.inl rfl) ?_ | refine And.intro (Or.inr rfl) ?_ | refine And.intro (Nat.le_of_ble_eq_true rfl) ?_ | refine And.intro (And.intro rfl rfl) ?_ | exact rfl
      exact zz_wk [true, true, true, true, true] rfl (ih38 _ _ _ _ _ _ _ hr)
theorem zr_X12_lamps (F : zz_F) (I : Nat → Nat → Int32) (J : Nat → Nat → Int64) (d N : Nat) (l1 : Int32) (r : Int32 × (Nat → Nat → Int32) × (Nat → Nat → Int64)) (h : zf_X12_lamps N l1 I J = some r) : zz_run (d+1) 294 0 [some (.ref 52), some (.int (l1)), none, none, none] [] (zz_S F I J) (some (.int (r.1))) (zz_S F (r.2.1) (r.2.2)) := (zq_X12_lamps F d N N).1 l1 0 0 0 I J r h
