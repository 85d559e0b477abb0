/-! methods with loops, printed by wip/whole/loop.py -/
def zb_X12_ofPlay_0 (N : Nat) (rec : Nat → Int32 → Int32 → Int32 → Int32 → (Nat → Nat → Int32) → (Nat → Nat → Int64) → Option (Int32 × (Nat → Nat → Int32) × (Nat → Nat → Int64))) (l1 : Int32) (l2 : Int32) (l3 : Int32) (l4 : Int32) (I : Nat → Nat → Int32) (J : Nat → Nat → Int64) : Option (Int32 × (Nat → Nat → Int32) × (Nat → Nat → Int64)) := rec 5 l1 l2 0 0 I J
def zb_X12_ofPlay_5 (N : Nat) (rec : Nat → Int32 → Int32 → Int32 → Int32 → (Nat → Nat → Int32) → (Nat → Nat → Int64) → Option (Int32 × (Nat → Nat → Int32) × (Nat → Nat → Int64))) (l1 : Int32) (l2 : Int32) (l3 : Int32) (l4 : Int32) (I : Nat → Nat → Int32) (J : Nat → Nat → Int64) : Option (Int32 × (Nat → Nat → Int32) × (Nat → Nat → Int64)) := if (I 52 1) ≤ l4 then (some (l3, I, J)) else (if (zv_X12_has l1 l4) = 0 then (rec 5 l1 l2 (l3 ||| 0) (l4 + 1) I J) else (if ¬ (((7 * l4) + 0) < 0 ∨ 84 ≤ ((7 * l4) + 0).toNatClampNeg) then (if ¬ (zv_X12_playOf I l4) = l2 then (rec 5 l1 l2 (l3 ||| 0) (l4 + 1) I J) else (rec 5 l1 l2 (l3 ||| ((1 : Int32) <<< (l4 &&& 31))) (l4 + 1) I J)) else none))
def zl_X12_ofPlay (N : Nat) : Nat → Nat → Int32 → Int32 → Int32 → Int32 → (Nat → Nat → Int32) → (Nat → Nat → Int64) → Option (Int32 × (Nat → Nat → Int32) × (Nat → Nat → Int64))
  | 0 => fun _ _ _ _ _ _ _ => none
  | n + 1 => fun pc l1 l2 l3 l4 I J => if pc = 0 then zb_X12_ofPlay_0 N (zl_X12_ofPlay N n) l1 l2 l3 l4 I J else (if pc = 5 then zb_X12_ofPlay_5 N (zl_X12_ofPlay N n) l1 l2 l3 l4 I J else none)
def zf_X12_ofPlay (N : Nat) (l1 : Int32) (l2 : Int32) (I : Nat → Nat → Int32) (J : Nat → Nat → Int64) : Option (Int32 × (Nat → Nat → Int32) × (Nat → Nat → Int64)) := zl_X12_ofPlay N N 0 l1 l2 0 0 I J
theorem zq_X12_ofPlay (F : zz_F) (d N : Nat) : ∀ n : Nat, (∀ (l1 : Int32) (l2 : Int32) (l3 : Int32) (l4 : Int32) (I : Nat → Nat → Int32) (J : Nat → Nat → Int64) (r : Int32 × (Nat → Nat → Int32) × (Nat → Nat → Int64)), zl_X12_ofPlay N n 0 l1 l2 l3 l4 I J = some r → zz_run (d+2) 233 0 [some (.ref 52), some (.int (l1)), some (.int (l2)), none, none] [] (zz_S F I J) (some (.int (r.1))) (zz_S F (I) (J))) ∧ (∀ (l1 : Int32) (l2 : Int32) (l3 : Int32) (l4 : Int32) (I : Nat → Nat → Int32) (J : Nat → Nat → Int64) (r : Int32 × (Nat → Nat → Int32) × (Nat → Nat → Int64)), zl_X12_ofPlay N n 5 l1 l2 l3 l4 I J = some r → zz_run (d+2) 233 5 [some (.ref 52), some (.int (l1)), some (.int (l2)), some (.int (l3)), some (.int (l4))] [] (zz_S F I J) (some (.int (r.1))) (zz_S F (I) (J))) := by
  intro n
  induction n with
  | zero => exact ⟨fun _ _ _ _ _ _ _ h => zz_no h, fun _ _ _ _ _ _ _ h => zz_no h⟩
  | succ n ih =>
    obtain ⟨ih0, ih5⟩ := ih
    refine ⟨?_, ?_⟩
    · intro l1 l2 l3 l4 I J r hr
      replace hr : zb_X12_ofPlay_0 N (zl_X12_ofPlay N n) l1 l2 l3 l4 I J = some r := hr
      unfold zb_X12_ofPlay_0 at hr
      refine zs_233_0 ?_
      repeat' first | refine And.intro rfl ?_ | refine And.intro (Or.inl rfl) ?_ | refine And.intro (Or.inr rfl) ?_ | refine And.intro (Nat.le_of_ble_eq_true rfl) ?_ | refine And.intro (And.intro rfl rfl) ?_ | exact rfl
      exact zz_wk [true, true, true, true, true] rfl (ih5 _ _ _ _ _ _ _ hr)
    · intro l1 l2 l3 l4 I J r hr
      replace hr : zb_X12_ofPlay_5 N (zl_X12_ofPlay N n) l1 l2 l3 l4 I J = some r := hr
      unfold zb_X12_ofPlay_5 at hr
      refine zs_233_5 ?_
      repeat' first | refine And.intro rfl ?_ | refine And.intro (Or.inl rfl) ?_ | refine And.intro (Or.inr rfl) ?_ | refine And.intro (Nat.le_of_ble_eq_true rfl) ?_ | refine And.intro (And.intro rfl rfl) ?_ | exact rfl
      refine And.intro (fun (h1 : (I 52 1) ≤ l4) => ?_) (fun (h1 : ¬ ((I 52 1) ≤ l4)) => ?_)
      · rw [if_pos h1] at hr
        refine zs_233_50 ?_
        repeat' first | refine And.intro rfl ?_ | refine And.intro (Or.inl rfl) ?_ | refine And.intro (Or.inr rfl) ?_ | refine And.intro (Nat.le_of_ble_eq_true rfl) ?_ | refine And.intro (And.intro rfl rfl) ?_ | exact rfl
        cases hr
        repeat' first | refine And.intro rfl ?_ | refine And.intro (Or.inl rfl) ?_ | refine And.intro (Or.inr rfl) ?_ | refine And.intro (Nat.le_of_ble_eq_true rfl) ?_ | refine And.intro (And.intro rfl rfl) ?_ | exact rfl
      · rw [if_neg h1] at hr
        repeat' first | refine And.intro rfl ?_ | refine And.intro (Or.inl rfl) ?_ | refine And.intro (Or.inr rfl) ?_ | refine And.intro (Nat.le_of_ble_eq_true rfl) ?_ | refine And.intro (And.intro rfl rfl) ?_ | exact rfl
        refine Exists.intro _ (Exists.intro _ (And.intro (zr_X12_has F I J (d+1) l1 l4) ?_))
        repeat' first | refine And.intro rfl ?_ | refine And.intro (Or.inl rfl) ?_ | refine And.intro (Or.inr rfl) ?_ | refine And.intro (Nat.le_of_ble_eq_true rfl) ?_ | refine And.intro (And.intro rfl rfl) ?_ | exact rfl
        refine And.intro (fun (h2 : (zv_X12_has l1 l4) = 0) => ?_) (fun (h2 : ¬ ((zv_X12_has l1 l4) = 0)) => ?_)
        · rw [if_pos h2] at hr
          refine zs_233_41 ?_
          repeat' first | refine And.intro rfl ?_ | refine And.intro (Or.inl rfl) ?_ | refine And.intro (Or.inr rfl) ?_ | refine And.intro (Nat.le_of_ble_eq_true rfl) ?_ | refine And.intro (And.intro rfl rfl) ?_ | exact rfl
          refine zs_233_42 ?_
          repeat' first | refine And.intro rfl ?_ | refine And.intro (Or.inl rfl) ?_ | refine And.intro (Or.inr rfl) ?_ | refine And.intro (Nat.le_of_ble_eq_true rfl) ?_ | refine And.intro (And.intro rfl rfl) ?_ | exact rfl
          exact zz_wk [true, true, true, true, true] rfl (ih5 _ _ _ _ _ _ _ hr)
        · rw [if_neg h2] at hr
          repeat' first | refine And.intro rfl ?_ | refine And.intro (Or.inl rfl) ?_ | refine And.intro (Or.inr rfl) ?_ | refine And.intro (Nat.le_of_ble_eq_true rfl) ?_ | refine And.intro (And.intro rfl rfl) ?_ | exact rfl
          have g1 : ¬ (((7 * l4) + 0) < 0 ∨ 84 ≤ ((7 * l4) + 0).toNatClampNeg) := zz_g hr
          replace hr := zz_gt hr
          refine Exists.intro _ (Exists.intro _ (And.intro (zr_X12_playOf F I J d l4 g1) ?_))
          repeat' first | refine And.intro rfl ?_ | refine And.intro (Or.inl rfl) ?_ | refine And.intro (Or.inr rfl) ?_ | refine And.intro (Nat.le_of_ble_eq_true rfl) ?_ | refine And.intro (And.intro rfl rfl) ?_ | exact rfl
          refine And.intro (fun (h3 : ¬ (zv_X12_playOf I l4) = l2) => ?_) (fun (h3 : ¬ (¬ (zv_X12_playOf I l4) = l2)) => ?_)
          · rw [if_pos h3] at hr
            refine zs_233_41 ?_
            repeat' first | refine And.intro rfl ?_ | refine And.intro (Or.inl rfl) ?_ | refine And.intro (Or.inr rfl) ?_ | refine And.intro (Nat.le_of_ble_eq_true rfl) ?_ | refine And.intro (And.intro rfl rfl) ?_ | exact rfl
            refine zs_233_42 ?_
            repeat' first | refine And.intro rfl ?_ | refine And.intro (Or.inl rfl) ?_ | refine And.intro (Or.inr rfl) ?_ | refine And.intro (Nat.le_of_ble_eq_true rfl) ?_ | refine And.intro (And.intro rfl rfl) ?_ | exact rfl
            exact zz_wk [true, true, true, true, true] rfl (ih5 _ _ _ _ _ _ _ hr)
          · rw [if_neg h3] at hr
            repeat' first | refine And.intro rfl ?_ | refine And.intro (Or.inl rfl) ?_ | refine And.intro (Or.inr rfl) ?_ | refine And.intro (Nat.le_of_ble_eq_true rfl) ?_ | refine And.intro (And.intro rfl rfl) ?_ | exact rfl
            refine zs_233_42 ?_
            repeat' first | refine And.intro rfl ?_ | refine And.intro (Or.inl rfl) ?_ | refine And.intro (Or.inr rfl) ?_ | refine And.intro (Nat.le_of_ble_eq_true rfl) ?_ | refine And.intro (And.intro rfl rfl) ?_ | exact rfl
            exact zz_wk [true, true, true, true, true] rfl (ih5 _ _ _ _ _ _ _ hr)
theorem zr_X12_ofPlay (F : zz_F) (I : Nat → Nat → Int32) (J : Nat → Nat → Int64) (d N : Nat) (l1 : Int32) (l2 : Int32) (r : Int32 × (Nat → Nat → Int32) × (Nat → Nat → Int64)) (h : zf_X12_ofPlay N l1 l2 I J = some r) : zz_run (d+2) 233 0 [some (.ref 52), some (.int (l1)), some (.int (l2)), none, none] [] (zz_S F I J) (some (.int (r.1))) (zz_S F (I) (J)) := (zq_X12_ofPlay F d N N).1 l1 l2 0 0 I J r h
def zb_X12_minutesOf_0 (N : Nat) (rec : Nat → Int32 → Int32 → Int32 → (Nat → Nat → Int32) → (Nat → Nat → Int64) → Option (Int32 × (Nat → Nat → Int32) × (Nat → Nat → Int64))) (l1 : Int32) (l2 : Int32) (l3 : Int32) (I : Nat → Nat → Int32) (J : Nat → Nat → Int64) : Option (Int32 × (Nat → Nat → Int32) × (Nat → Nat → Int64)) := rec 4 l1 0 0 I J
def zb_X12_minutesOf_4 (N : Nat) (rec : Nat → Int32 → Int32 → Int32 → (Nat → Nat → Int32) → (Nat → Nat → Int64) → Option (Int32 × (Nat → Nat → Int32) × (Nat → Nat → Int64))) (l1 : Int32) (l2 : Int32) (l3 : Int32) (I : Nat → Nat → Int32) (J : Nat → Nat → Int64) : Option (Int32 × (Nat → Nat → Int32) × (Nat → Nat → Int64)) := if (I 52 1) ≤ l3 then (some (l2, I, J)) else (if (zv_X12_has l1 l3) = 0 then (rec 4 l1 (l2 + 0) (l3 + 1) I J) else (if ¬ (((7 * l3) + 1) < 0 ∨ 84 ≤ ((7 * l3) + 1).toNatClampNeg) then (rec 4 l1 (l2 + (zv_X12_field I l3 1)) (l3 + 1) I J) else none))
def zl_X12_minutesOf (N : Nat) : Nat → Nat → Int32 → Int32 → Int32 → (Nat → Nat → Int32) → (Nat → Nat → Int64) → Option (Int32 × (Nat → Nat → Int32) × (Nat → Nat → Int64))
  | 0 => fun _ _ _ _ _ _ => none
  | n + 1 => fun pc l1 l2 l3 I J => if pc = 0 then zb_X12_minutesOf_0 N (zl_X12_minutesOf N n) l1 l2 l3 I J else (if pc = 4 then zb_X12_minutesOf_4 N (zl_X12_minutesOf N n) l1 l2 l3 I J else none)
def zf_X12_minutesOf (N : Nat) (l1 : Int32) (I : Nat → Nat → Int32) (J : Nat → Nat → Int64) : Option (Int32 × (Nat → Nat → Int32) × (Nat → Nat → Int64)) := zl_X12_minutesOf N N 0 l1 0 0 I J
theorem zq_X12_minutesOf (F : zz_F) (d N : Nat) : ∀ n : Nat, (∀ (l1 : Int32) (l2 : Int32) (l3 : Int32) (I : Nat → Nat → Int32) (J : Nat → Nat → Int64) (r : Int32 × (Nat → Nat → Int32) × (Nat → Nat → Int64)), zl_X12_minutesOf N n 0 l1 l2 l3 I J = some r → zz_run (d+1) 234 0 [some (.ref 52), some (.int (l1)), none, none] [] (zz_S F I J) (some (.int (r.1))) (zz_S F (I) (J))) ∧ (∀ (l1 : Int32) (l2 : Int32) (l3 : Int32) (I : Nat → Nat → Int32) (J : Nat → Nat → Int64) (r : Int32 × (Nat → Nat → Int32) × (Nat → Nat → Int64)), zl_X12_minutesOf N n 4 l1 l2 l3 I J = some r → zz_run (d+1) 234 4 [some (.ref 52), some (.int (l1)), some (.int (l2)), some (.int (l3))] [] (zz_S F I J) (some (.int (r.1))) (zz_S F (I) (J))) := by
  intro n
  induction n with
  | zero => exact ⟨fun _ _ _ _ _ _ h => zz_no h, fun _ _ _ _ _ _ h => zz_no h⟩
  | succ n ih =>
    obtain ⟨ih0, ih4⟩ := ih
    refine ⟨?_, ?_⟩
    · intro l1 l2 l3 I J r hr
      replace hr : zb_X12_minutesOf_0 N (zl_X12_minutesOf N n) l1 l2 l3 I J = some r := hr
      unfold zb_X12_minutesOf_0 at hr
      refine zs_234_0 ?_
      repeat' first | refine And.intro rfl ?_ | refine And.intro (Or.inl rfl) ?_ | refine And.intro (Or.inr rfl) ?_ | refine And.intro (Nat.le_of_ble_eq_true rfl) ?_ | refine And.intro (And.intro rfl rfl) ?_ | exact rfl
      exact zz_wk [true, true, true, true] rfl (ih4 _ _ _ _ _ _ hr)
    · intro l1 l2 l3 I J r hr
      replace hr : zb_X12_minutesOf_4 N (zl_X12_minutesOf N n) l1 l2 l3 I J = some r := hr
      unfold zb_X12_minutesOf_4 at hr
      refine zs_234_4 ?_
      repeat' first | refine And.intro rfl ?_ | refine And.intro (Or.inl rfl) ?_ | refine And.intro (Or.inr rfl) ?_ | refine And.intro (Nat.le_of_ble_eq_true rfl) ?_ | refine And.intro (And.intro rfl rfl) ?_ | exact rfl
      refine And.intro (fun (h1 : (I 52 1) ≤ l3) => ?_) (fun (h1 : ¬ ((I 52 1) ≤ l3)) => ?_)
      · rw [if_pos h1] at hr
        refine zs_234_39 ?_
        repeat' first | refine And.intro rfl ?_ | refine And.intro (Or.inl rfl) ?_ | refine And.intro (Or.inr rfl) ?_ | refine And.intro (Nat.le_of_ble_eq_true rfl) ?_ | refine And.intro (And.intro rfl rfl) ?_ | exact rfl
        cases hr
        repeat' first | refine And.intro rfl ?_ | refine And.intro (Or.inl rfl) ?_ | refine And.intro (Or.inr rfl) ?_ | refine And.intro (Nat.le_of_ble_eq_true rfl) ?_ | refine And.intro (And.intro rfl rfl) ?_ | exact rfl
      · rw [if_neg h1] at hr
        repeat' first | refine And.intro rfl ?_ | refine And.intro (Or.inl rfl) ?_ | refine And.intro (Or.inr rfl) ?_ | refine And.intro (Nat.le_of_ble_eq_true rfl) ?_ | refine And.intro (And.intro rfl rfl) ?_ | exact rfl
        refine Exists.intro _ (Exists.intro _ (And.intro (zr_X12_has F I J d l1 l3) ?_))
        repeat' first | refine And.intro rfl ?_ | refine And.intro (Or.inl rfl) ?_ | refine And.intro (Or.inr rfl) ?_ | refine And.intro (Nat.le_of_ble_eq_true rfl) ?_ | refine And.intro (And.intro rfl rfl) ?_ | exact rfl
        refine And.intro (fun (h2 : (zv_X12_has l1 l3) = 0) => ?_) (fun (h2 : ¬ ((zv_X12_has l1 l3) = 0)) => ?_)
        · rw [if_pos h2] at hr
          refine zs_234_30 ?_
          repeat' first | refine And.intro rfl ?_ | refine And.intro (Or.inl rfl) ?_ | refine And.intro (Or.inr rfl) ?_ | refine And.intro (Nat.le_of_ble_eq_true rfl) ?_ | refine And.intro (And.intro rfl rfl) ?_ | exact rfl
          refine zs_234_31 ?_
          repeat' first | refine And.intro rfl ?_ | refine And.intro (Or.inl rfl) ?_ | refine And.intro (Or.inr rfl) ?_ | refine And.intro (Nat.le_of_ble_eq_true rfl) ?_ | refine And.intro (And.intro rfl rfl) ?_ | exact rfl
          exact zz_wk [true, true, true, true] rfl (ih4 _ _ _ _ _ _ hr)
        · rw [if_neg h2] at hr
          repeat' first | refine And.intro rfl ?_ | refine And.intro (Or.inl rfl) ?_ | refine And.intro (Or.inr rfl) ?_ | refine And.intro (Nat.le_of_ble_eq_true rfl) ?_ | refine And.intro (And.intro rfl rfl) ?_ | exact rfl
          have g1 : ¬ (((7 * l3) + 1) < 0 ∨ 84 ≤ ((7 * l3) + 1).toNatClampNeg) := zz_g hr
          replace hr := zz_gt hr
          refine Exists.intro _ (Exists.intro _ (And.intro (zr_X12_field F I J d l3 1 g1) ?_))
          repeat' first | refine And.intro rfl ?_ | refine And.intro (Or.inl rfl) ?_ | refine And.intro (Or.inr rfl) ?_ | refine And.intro (Nat.le_of_ble_eq_true rfl) ?_ | refine And.intro (And.intro rfl rfl) ?_ | exact rfl
          refine zs_234_31 ?_
          repeat' first | refine And.intro rfl ?_ | refine And.intro (Or.inl rfl) ?_ | refine And.intro (Or.inr rfl) ?_ | refine And.intro (Nat.le_of_ble_eq_true rfl) ?_ | refine And.intro (And.intro rfl rfl) ?_ | exact rfl
          exact zz_wk [true, true, true, true] rfl (ih4 _ _ _ _ _ _ hr)
theorem zr_X12_minutesOf (F : zz_F) (I : Nat → Nat → Int32) (J : Nat → Nat → Int64) (d N : Nat) (l1 : Int32) (r : Int32 × (Nat → Nat → Int32) × (Nat → Nat → Int64)) (h : zf_X12_minutesOf N l1 I J = some r) : zz_run (d+1) 234 0 [some (.ref 52), some (.int (l1)), none, none] [] (zz_S F I J) (some (.int (r.1))) (zz_S F (I) (J)) := (zq_X12_minutesOf F d N N).1 l1 0 0 I J r h
def zb_X12_lay__53_62_0 (N : Nat) (rec : Nat → Int32 → Int32 → (Nat → Nat → Int32) → (Nat → Nat → Int64) → Option (Int32 × (Nat → Nat → Int32) × (Nat → Nat → Int64))) (l2 : Int32) (l3 : Int32) (I : Nat → Nat → Int32) (J : Nat → Nat → Int64) : Option (Int32 × (Nat → Nat → Int32) × (Nat → Nat → Int64)) := rec 2 l2 0 I J
def zb_X12_lay__53_62_2 (N : Nat) (rec : Nat → Int32 → Int32 → (Nat → Nat → Int32) → (Nat → Nat → Int64) → Option (Int32 × (Nat → Nat → Int32) × (Nat → Nat → Int64))) (l2 : Int32) (l3 : Int32) (I : Nat → Nat → Int32) (J : Nat → Nat → Int64) : Option (Int32 × (Nat → Nat → Int32) × (Nat → Nat → Int64)) := if 18 ≤ l3 then (some (0, I, J)) else (if ¬ (l3 < 0 ∨ 18 ≤ l3.toNatClampNeg) then (if ¬ ((l2 + l3) < 0 ∨ 18 ≤ (l2 + l3).toNatClampNeg) then (rec 2 l2 (l3 + 1) (zz_u I 62 ((l2 + l3).toNatClampNeg) (I 53 l3.toNatClampNeg)) J) else none) else none)
def zl_X12_lay__53_62 (N : Nat) : Nat → Nat → Int32 → Int32 → (Nat → Nat → Int32) → (Nat → Nat → Int64) → Option (Int32 × (Nat → Nat → Int32) × (Nat → Nat → Int64))
  | 0 => fun _ _ _ _ _ => none
  | n + 1 => fun pc l2 l3 I J => if pc = 0 then zb_X12_lay__53_62_0 N (zl_X12_lay__53_62 N n) l2 l3 I J else (if pc = 2 then zb_X12_lay__53_62_2 N (zl_X12_lay__53_62 N n) l2 l3 I J else none)
def zf_X12_lay__53_62 (N : Nat) (l2 : Int32) (I : Nat → Nat → Int32) (J : Nat → Nat → Int64) : Option (Int32 × (Nat → Nat → Int32) × (Nat → Nat → Int64)) := zl_X12_lay__53_62 N N 0 l2 0 I J
theorem zq_X12_lay__53_62 (F : zz_F) (d N : Nat) : ∀ n : Nat, (∀ (l2 : Int32) (l3 : Int32) (I : Nat → Nat → Int32) (J : Nat → Nat → Int64) (r : Int32 × (Nat → Nat → Int32) × (Nat → Nat → Int64)), zl_X12_lay__53_62 N n 0 l2 l3 I J = some r → zz_run (d) 240 0 [some (.ref 53), some (.ref 62), some (.int (l2)), none] [] (zz_S F I J) none (zz_S F (r.2.1) (J))) ∧ (∀ (l2 : Int32) (l3 : Int32) (I : Nat → Nat → Int32) (J : Nat → Nat → Int64) (r : Int32 × (Nat → Nat → Int32) × (Nat → Nat → Int64)), zl_X12_lay__53_62 N n 2 l2 l3 I J = some r → zz_run (d) 240 2 [some (.ref 53), some (.ref 62), some (.int (l2)), some (.int (l3))] [] (zz_S F I J) none (zz_S F (r.2.1) (J))) := by
  intro n
  induction n with
  | zero => exact ⟨fun _ _ _ _ _ h => zz_no h, fun _ _ _ _ _ h => zz_no h⟩
  | succ n ih =>
    obtain ⟨ih0, ih2⟩ := ih
    refine ⟨?_, ?_⟩
    · intro l2 l3 I J r hr
      replace hr : zb_X12_lay__53_62_0 N (zl_X12_lay__53_62 N n) l2 l3 I J = some r := hr
      unfold zb_X12_lay__53_62_0 at hr
      refine zs_240_0 ?_
      repeat' first | refine And.intro rfl ?_ | refine And.intro (Or.inl rfl) ?_ | refine And.intro (Or.inr rfl) ?_ | refine And.intro (Nat.le_of_ble_eq_true rfl) ?_ | refine And.intro (And.intro rfl rfl) ?_ | exact rfl
      exact zz_wk [true, true, true, true] rfl (ih2 _ _ _ _ _ hr)
    · intro l2 l3 I J r hr
      replace hr : zb_X12_lay__53_62_2 N (zl_X12_lay__53_62 N n) l2 l3 I J = some r := hr
      unfold zb_X12_lay__53_62_2 at hr
      refine zs_240_2 ?_
      repeat' first | refine And.intro rfl ?_ | refine And.intro (Or.inl rfl) ?_ | refine And.intro (Or.inr rfl) ?_ | refine And.intro (Nat.le_of_ble_eq_true rfl) ?_ | refine And.intro (And.intro rfl rfl) ?_ | exact rfl
      refine And.intro (fun (h1 : 18 ≤ l3) => ?_) (fun (h1 : ¬ (18 ≤ l3)) => ?_)
      · rw [if_pos h1] at hr
        refine zs_240_22 ?_
        repeat' first | refine And.intro rfl ?_ | refine And.intro (Or.inl rfl) ?_ | refine And.intro (Or.inr rfl) ?_ | refine And.intro (Nat.le_of_ble_eq_true rfl) ?_ | refine And.intro (And.intro rfl rfl) ?_ | exact rfl
        cases hr
        repeat' first | refine And.intro rfl ?_ | refine And.intro (Or.inl rfl) ?_ | refine And.intro (Or.inr rfl) ?_ | refine And.intro (Nat.le_of_ble_eq_true rfl) ?_ | refine And.intro (And.intro rfl rfl) ?_ | exact rfl
      · rw [if_neg h1] at hr
        repeat' first | refine And.intro rfl ?_ | refine And.intro (Or.inl rfl) ?_ | refine And.intro (Or.inr rfl) ?_ | refine And.intro (Nat.le_of_ble_eq_true rfl) ?_ | refine And.intro (And.intro rfl rfl) ?_ | exact rfl
        have g1 : ¬ (l3 < 0 ∨ 18 ≤ l3.toNatClampNeg) := zz_g hr
        replace hr := zz_gt hr
        refine And.intro (g1) ?_
        repeat' first | refine And.intro rfl ?_ | refine And.intro (Or.inl rfl) ?_ | refine And.intro (Or.inr rfl) ?_ | refine And.intro (Nat.le_of_ble_eq_true rfl) ?_ | refine And.intro (And.intro rfl rfl) ?_ | exact rfl
        have g2 : ¬ ((l2 + l3) < 0 ∨ 18 ≤ (l2 + l3).toNatClampNeg) := zz_g hr
        replace hr := zz_gt hr
        refine And.intro (g2) ?_
        repeat' first | refine And.intro rfl ?_ | refine And.intro (Or.inl rfl) ?_ | refine And.intro (Or.inr rfl) ?_ | refine And.intro (Nat.le_of_ble_eq_true rfl) ?_ | refine And.intro (And.intro rfl rfl) ?_ | exact rfl
        exact zz_wk [true, true, true, true] rfl (ih2 _ _ _ _ _ hr)
theorem zr_X12_lay__53_62 (F : zz_F) (I : Nat → Nat → Int32) (J : Nat → Nat → Int64) (d N : Nat) (l2 : Int32) (r : Int32 × (Nat → Nat → Int32) × (Nat → Nat → Int64)) (h : zf_X12_lay__53_62 N l2 I J = some r) : zz_run (d) 240 0 [some (.ref 53), some (.ref 62), some (.int (l2)), none] [] (zz_S F I J) none (zz_S F (r.2.1) (J)) := (zq_X12_lay__53_62 F d N N).1 l2 0 I J r h
def zb_X12_lay__53_61_0 (N : Nat) (rec : Nat → Int32 → Int32 → (Nat → Nat → Int32) → (Nat → Nat → Int64) → Option (Int32 × (Nat → Nat → Int32) × (Nat → Nat → Int64))) (l2 : Int32) (l3 : Int32) (I : Nat → Nat → Int32) (J : Nat → Nat → Int64) : Option (Int32 × (Nat → Nat → Int32) × (Nat → Nat → Int64)) := rec 2 l2 0 I J
def zb_X12_lay__53_61_2 (N : Nat) (rec : Nat → Int32 → Int32 → (Nat → Nat → Int32) → (Nat → Nat → Int64) → Option (Int32 × (Nat → Nat → Int32) × (Nat → Nat → Int64))) (l2 : Int32) (l3 : Int32) (I : Nat → Nat → Int32) (J : Nat → Nat → Int64) : Option (Int32 × (Nat → Nat → Int32) × (Nat → Nat → Int64)) := if 18 ≤ l3 then (some (0, I, J)) else (if ¬ (l3 < 0 ∨ 18 ≤ l3.toNatClampNeg) then (if ¬ ((l2 + l3) < 0 ∨ 216 ≤ (l2 + l3).toNatClampNeg) then (rec 2 l2 (l3 + 1) (zz_u I 61 ((l2 + l3).toNatClampNeg) (I 53 l3.toNatClampNeg)) J) else none) else none)
def zl_X12_lay__53_61 (N : Nat) : Nat → Nat → Int32 → Int32 → (Nat → Nat → Int32) → (Nat → Nat → Int64) → Option (Int32 × (Nat → Nat → Int32) × (Nat → Nat → Int64))
  | 0 => fun _ _ _ _ _ => none
  | n + 1 => fun pc l2 l3 I J => if pc = 0 then zb_X12_lay__53_61_0 N (zl_X12_lay__53_61 N n) l2 l3 I J else (if pc = 2 then zb_X12_lay__53_61_2 N (zl_X12_lay__53_61 N n) l2 l3 I J else none)
def zf_X12_lay__53_61 (N : Nat) (l2 : Int32) (I : Nat → Nat → Int32) (J : Nat → Nat → Int64) : Option (Int32 × (Nat → Nat → Int32) × (Nat → Nat → Int64)) := zl_X12_lay__53_61 N N 0 l2 0 I J
theorem zq_X12_lay__53_61 (F : zz_F) (d N : Nat) : ∀ n : Nat, (∀ (l2 : Int32) (l3 : Int32) (I : Nat → Nat → Int32) (J : Nat → Nat → Int64) (r : Int32 × (Nat → Nat → Int32) × (Nat → Nat → Int64)), zl_X12_lay__53_61 N n 0 l2 l3 I J = some r → zz_run (d) 240 0 [some (.ref 53), some (.ref 61), some (.int (l2)), none] [] (zz_S F I J) none (zz_S F (r.2.1) (J))) ∧ (∀ (l2 : Int32) (l3 : Int32) (I : Nat → Nat → Int32) (J : Nat → Nat → Int64) (r : Int32 × (Nat → Nat → Int32) × (Nat → Nat → Int64)), zl_X12_lay__53_61 N n 2 l2 l3 I J = some r → zz_run (d) 240 2 [some (.ref 53), some (.ref 61), some (.int (l2)), some (.int (l3))] [] (zz_S F I J) none (zz_S F (r.2.1) (J))) := by
  intro n
  induction n with
  | zero => exact ⟨fun _ _ _ _ _ h => zz_no h, fun _ _ _ _ _ h => zz_no h⟩
  | succ n ih =>
    obtain ⟨ih0, ih2⟩ := ih
    refine ⟨?_, ?_⟩
    · intro l2 l3 I J r hr
      replace hr : zb_X12_lay__53_61_0 N (zl_X12_lay__53_61 N n) l2 l3 I J = some r := hr
      unfold zb_X12_lay__53_61_0 at hr
      refine zs_240_0 ?_
      repeat' first | refine And.intro rfl ?_ | refine And.intro (Or.inl rfl) ?_ | refine And.intro (Or.inr rfl) ?_ | refine And.intro (Nat.le_of_ble_eq_true rfl) ?_ | refine And.intro (And.intro rfl rfl) ?_ | exact rfl
      exact zz_wk [true, true, true, true] rfl (ih2 _ _ _ _ _ hr)
    · intro l2 l3 I J r hr
      replace hr : zb_X12_lay__53_61_2 N (zl_X12_lay__53_61 N n) l2 l3 I J = some r := hr
      unfold zb_X12_lay__53_61_2 at hr
      refine zs_240_2 ?_
      repeat' first | refine And.intro rfl ?_ | refine And.intro (Or.inl rfl) ?_ | refine And.intro (Or.inr rfl) ?_ | refine And.intro (Nat.le_of_ble_eq_true rfl) ?_ | refine And.intro (And.intro rfl rfl) ?_ | exact rfl
      refine And.intro (fun (h1 : 18 ≤ l3) => ?_) (fun (h1 : ¬ (18 ≤ l3)) => ?_)
      · rw [if_pos h1] at hr
        refine zs_240_22 ?_
        repeat' first | refine And.intro rfl ?_ | refine And.intro (Or.inl rfl) ?_ | refine And.intro (Or.inr rfl) ?_ | refine And.intro (Nat.le_of_ble_eq_true rfl) ?_ | refine And.intro (And.intro rfl rfl) ?_ | exact rfl
        cases hr
        repeat' first | refine And.intro rfl ?_ | refine And.intro (Or.inl rfl) ?_ | refine And.intro (Or.inr rfl) ?_ | refine And.intro (Nat.le_of_ble_eq_true rfl) ?_ | refine And.intro (And.intro rfl rfl) ?_ | exact rfl
      · rw [if_neg h1] at hr
        repeat' first | refine And.intro rfl ?_ | refine And.intro (Or.inl rfl) ?_ | refine And.intro (Or.inr rfl) ?_ | refine And.intro (Nat.le_of_ble_eq_true rfl) ?_ | refine And.intro (And.intro rfl rfl) ?_ | exact rfl
        have g1 : ¬ (l3 < 0 ∨ 18 ≤ l3.toNatClampNeg) := zz_g hr
        replace hr := zz_gt hr
        refine And.intro (g1) ?_
        repeat' first | refine And.intro rfl ?_ | refine And.intro (Or.inl rfl) ?_ | refine And.intro (Or.inr rfl) ?_ | refine And.intro (Nat.le_of_ble_eq_true rfl) ?_ | refine And.intro (And.intro rfl rfl) ?_ | exact rfl
        have g2 : ¬ ((l2 + l3) < 0 ∨ 216 ≤ (l2 + l3).toNatClampNeg) := zz_g hr
        replace hr := zz_gt hr
        refine And.intro (g2) ?_
        repeat' first | refine And.intro rfl ?_ | refine And.intro (Or.inl rfl) ?_ | refine And.intro (Or.inr rfl) ?_ | refine And.intro (Nat.le_of_ble_eq_true rfl) ?_ | refine And.intro (And.intro rfl rfl) ?_ | exact rfl
        exact zz_wk [true, true, true, true] rfl (ih2 _ _ _ _ _ hr)
theorem zr_X12_lay__53_61 (F : zz_F) (I : Nat → Nat → Int32) (J : Nat → Nat → Int64) (d N : Nat) (l2 : Int32) (r : Int32 × (Nat → Nat → Int32) × (Nat → Nat → Int64)) (h : zf_X12_lay__53_61 N l2 I J = some r) : zz_run (d) 240 0 [some (.ref 53), some (.ref 61), some (.int (l2)), none] [] (zz_S F I J) none (zz_S F (r.2.1) (J)) := (zq_X12_lay__53_61 F d N N).1 l2 0 I J r h
def zb_X12_lay__62_61_0 (N : Nat) (rec : Nat → Int32 → Int32 → (Nat → Nat → Int32) → (Nat → Nat → Int64) → Option (Int32 × (Nat → Nat → Int32) × (Nat → Nat → Int64))) (l2 : Int32) (l3 : Int32) (I : Nat → Nat → Int32) (J : Nat → Nat → Int64) : Option (Int32 × (Nat → Nat → Int32) × (Nat → Nat → Int64)) := rec 2 l2 0 I J
def zb_X12_lay__62_61_2 (N : Nat) (rec : Nat → Int32 → Int32 → (Nat → Nat → Int32) → (Nat → Nat → Int64) → Option (Int32 × (Nat → Nat → Int32) × (Nat → Nat → Int64))) (l2 : Int32) (l3 : Int32) (I : Nat → Nat → Int32) (J : Nat → Nat → Int64) : Option (Int32 × (Nat → Nat → Int32) × (Nat → Nat → Int64)) := if 18 ≤ l3 then (some (0, I, J)) else (if ¬ (l3 < 0 ∨ 18 ≤ l3.toNatClampNeg) then (if ¬ ((l2 + l3) < 0 ∨ 216 ≤ (l2 + l3).toNatClampNeg) then (rec 2 l2 (l3 + 1) (zz_u I 61 ((l2 + l3).toNatClampNeg) (I 62 l3.toNatClampNeg)) J) else none) else none)
def zl_X12_lay__62_61 (N : Nat) : Nat → Nat → Int32 → Int32 → (Nat → Nat → Int32) → (Nat → Nat → Int64) → Option (Int32 × (Nat → Nat → Int32) × (Nat → Nat → Int64))
  | 0 => fun _ _ _ _ _ => none
  | n + 1 => fun pc l2 l3 I J => if pc = 0 then zb_X12_lay__62_61_0 N (zl_X12_lay__62_61 N n) l2 l3 I J else (if pc = 2 then zb_X12_lay__62_61_2 N (zl_X12_lay__62_61 N n) l2 l3 I J else none)
def zf_X12_lay__62_61 (N : Nat) (l2 : Int32) (I : Nat → Nat → Int32) (J : Nat → Nat → Int64) : Option (Int32 × (Nat → Nat → Int32) × (Nat → Nat → Int64)) := zl_X12_lay__62_61 N N 0 l2 0 I J
theorem zq_X12_lay__62_61 (F : zz_F) (d N : Nat) : ∀ n : Nat, (∀ (l2 : Int32) (l3 : Int32) (I : Nat → Nat → Int32) (J : Nat → Nat → Int64) (r : Int32 × (Nat → Nat → Int32) × (Nat → Nat → Int64)), zl_X12_lay__62_61 N n 0 l2 l3 I J = some r → zz_run (d) 240 0 [some (.ref 62), some (.ref 61), some (.int (l2)), none] [] (zz_S F I J) none (zz_S F (r.2.1) (J))) ∧ (∀ (l2 : Int32) (l3 : Int32) (I : Nat → Nat → Int32) (J : Nat → Nat → Int64) (r : Int32 × (Nat → Nat → Int32) × (Nat → Nat → Int64)), zl_X12_lay__62_61 N n 2 l2 l3 I J = some r → zz_run (d) 240 2 [some (.ref 62), some (.ref 61), some (.int (l2)), some (.int (l3))] [] (zz_S F I J) none (zz_S F (r.2.1) (J))) := by
  intro n
  induction n with
  | zero => exact ⟨fun _ _ _ _ _ h => zz_no h, fun _ _ _ _ _ h => zz_no h⟩
  | succ n ih =>
    obtain ⟨ih0, ih2⟩ := ih
    refine ⟨?_, ?_⟩
    · intro l2 l3 I J r hr
      replace hr : zb_X12_lay__62_61_0 N (zl_X12_lay__62_61 N n) l2 l3 I J = some r := hr
      unfold zb_X12_lay__62_61_0 at hr
      refine zs_240_0 ?_
      repeat' first | refine And.intro rfl ?_ | refine And.intro (Or.inl rfl) ?_ | refine And.intro (Or.inr rfl) ?_ | refine And.intro (Nat.le_of_ble_eq_true rfl) ?_ | refine And.intro (And.intro rfl rfl) ?_ | exact rfl
      exact zz_wk [true, true, true, true] rfl (ih2 _ _ _ _ _ hr)
    · intro l2 l3 I J r hr
      replace hr : zb_X12_lay__62_61_2 N (zl_X12_lay__62_61 N n) l2 l3 I J = some r := hr
      unfold zb_X12_lay__62_61_2 at hr
      refine zs_240_2 ?_
      repeat' first | refine And.intro rfl ?_ | refine And.intro (Or.inl rfl) ?_ | refine And.intro (Or.inr rfl) ?_ | refine And.intro (Nat.le_of_ble_eq_true rfl) ?_ | refine And.intro (And.intro rfl rfl) ?_ | exact rfl
      refine And.intro (fun (h1 : 18 ≤ l3) => ?_) (fun (h1 : ¬ (18 ≤ l3)) => ?_)
      · rw [if_pos h1] at hr
        refine zs_240_22 ?_
        repeat' first | refine And.intro rfl ?_ | refine And.intro (Or.inl rfl) ?_ | refine And.intro (Or.inr rfl) ?_ | refine And.intro (Nat.le_of_ble_eq_true rfl) ?_ | refine And.intro (And.intro rfl rfl) ?_ | exact rfl
        cases hr
        repeat' first | refine And.intro rfl ?_ | refine And.intro (Or.inl rfl) ?_ | refine And.intro (Or.inr rfl) ?_ | refine And.intro (Nat.le_of_ble_eq_true rfl) ?_ | refine And.intro (And.intro rfl rfl) ?_ | exact rfl
      · rw [if_neg h1] at hr
        repeat' first | refine And.intro rfl ?_ | refine And.intro (Or.inl rfl) ?_ | refine And.intro (Or.inr rfl) ?_ | refine And.intro (Nat.le_of_ble_eq_true rfl) ?_ | refine And.intro (And.intro rfl rfl) ?_ | exact rfl
        have g1 : ¬ (l3 < 0 ∨ 18 ≤ l3.toNatClampNeg) := zz_g hr
        replace hr := zz_gt hr
        refine And.intro (g1) ?_
        repeat' first | refine And.intro rfl ?_ | refine And.intro (Or.inl rfl) ?_ | refine And.intro (Or.inr rfl) ?_ | refine And.intro (Nat.le_of_ble_eq_true rfl) ?_ | refine And.intro (And.intro rfl rfl) ?_ | exact rfl
        have g2 : ¬ ((l2 + l3) < 0 ∨ 216 ≤ (l2 + l3).toNatClampNeg) := zz_g hr
        replace hr := zz_gt hr
        refine And.intro (g2) ?_
        repeat' first | refine And.intro rfl ?_ | refine And.intro (Or.inl rfl) ?_ | refine And.intro (Or.inr rfl) ?_ | refine And.intro (Nat.le_of_ble_eq_true rfl) ?_ | refine And.intro (And.intro rfl rfl) ?_ | exact rfl
        exact zz_wk [true, true, true, true] rfl (ih2 _ _ _ _ _ hr)
theorem zr_X12_lay__62_61 (F : zz_F) (I : Nat → Nat → Int32) (J : Nat → Nat → Int64) (d N : Nat) (l2 : Int32) (r : Int32 × (Nat → Nat → Int32) × (Nat → Nat → Int64)) (h : zf_X12_lay__62_61 N l2 I J = some r) : zz_run (d) 240 0 [some (.ref 62), some (.ref 61), some (.int (l2)), none] [] (zz_S F I J) none (zz_S F (r.2.1) (J)) := (zq_X12_lay__62_61 F d N N).1 l2 0 I J r h
def zb_X12_lay__53_63_0 (N : Nat) (rec : Nat → Int32 → Int32 → (Nat → Nat → Int32) → (Nat → Nat → Int64) → Option (Int32 × (Nat → Nat → Int32) × (Nat → Nat → Int64))) (l2 : Int32) (l3 : Int32) (I : Nat → Nat → Int32) (J : Nat → Nat → Int64) : Option (Int32 × (Nat → Nat → Int32) × (Nat → Nat → Int64)) := rec 2 l2 0 I J
def zb_X12_lay__53_63_2 (N : Nat) (rec : Nat → Int32 → Int32 → (Nat → Nat → Int32) → (Nat → Nat → Int64) → Option (Int32 × (Nat → Nat → Int32) × (Nat → Nat → Int64))) (l2 : Int32) (l3 : Int32) (I : Nat → Nat → Int32) (J : Nat → Nat → Int64) : Option (Int32 × (Nat → Nat → Int32) × (Nat → Nat → Int64)) := if 18 ≤ l3 then (some (0, I, J)) else (if ¬ (l3 < 0 ∨ 18 ≤ l3.toNatClampNeg) then (if ¬ ((l2 + l3) < 0 ∨ 18 ≤ (l2 + l3).toNatClampNeg) then (rec 2 l2 (l3 + 1) (zz_u I 63 ((l2 + l3).toNatClampNeg) (I 53 l3.toNatClampNeg)) J) else none) else none)
def zl_X12_lay__53_63 (N : Nat) : Nat → Nat → Int32 → Int32 → (Nat → Nat → Int32) → (Nat → Nat → Int64) → Option (Int32 × (Nat → Nat → Int32) × (Nat → Nat → Int64))
  | 0 => fun _ _ _ _ _ => none
  | n + 1 => fun pc l2 l3 I J => if pc = 0 then zb_X12_lay__53_63_0 N (zl_X12_lay__53_63 N n) l2 l3 I J else (if pc = 2 then zb_X12_lay__53_63_2 N (zl_X12_lay__53_63 N n) l2 l3 I J else none)
def zf_X12_lay__53_63 (N : Nat) (l2 : Int32) (I : Nat → Nat → Int32) (J : Nat → Nat → Int64) : Option (Int32 × (Nat → Nat → Int32) × (Nat → Nat → Int64)) := zl_X12_lay__53_63 N N 0 l2 0 I J
theorem zq_X12_lay__53_63 (F : zz_F) (d N : Nat) : ∀ n : Nat, (∀ (l2 : Int32) (l3 : Int32) (I : Nat → Nat → Int32) (J : Nat → Nat → Int64) (r : Int32 × (Nat → Nat → Int32) × (Nat → Nat → Int64)), zl_X12_lay__53_63 N n 0 l2 l3 I J = some r → zz_run (d) 240 0 [some (.ref 53), some (.ref 63), some (.int (l2)), none] [] (zz_S F I J) none (zz_S F (r.2.1) (J))) ∧ (∀ (l2 : Int32) (l3 : Int32) (I : Nat → Nat → Int32) (J : Nat → Nat → Int64) (r : Int32 × (Nat → Nat → Int32) × (Nat → Nat → Int64)), zl_X12_lay__53_63 N n 2 l2 l3 I J = some r → zz_run (d) 240 2 [some (.ref 53), some (.ref 63), some (.int (l2)), some (.int (l3))] [] (zz_S F I J) none (zz_S F (r.2.1) (J))) := by
  intro n
  induction n with
  | zero => exact ⟨fun _ _ _ _ _ h => zz_no h, fun _ _ _ _ _ h => zz_no h⟩
  | succ n ih =>
    obtain ⟨ih0, ih2⟩ := ih
    refine ⟨?_, ?_⟩
    · intro l2 l3 I J r hr
      replace hr : zb_X12_lay__53_63_0 N (zl_X12_lay__53_63 N n) l2 l3 I J = some r := hr
      unfold zb_X12_lay__53_63_0 at hr
      refine zs_240_0 ?_
      repeat' first | refine And.intro rfl ?_ | refine And.intro (Or.inl rfl) ?_ | refine And.intro (Or.inr rfl) ?_ | refine And.intro (Nat.le_of_ble_eq_true rfl) ?_ | refine And.intro (And.intro rfl rfl) ?_ | exact rfl
      exact zz_wk [true, true, true, true] rfl (ih2 _ _ _ _ _ hr)
    · intro l2 l3 I J r hr
      replace hr : zb_X12_lay__53_63_2 N (zl_X12_lay__53_63 N n) l2 l3 I J = some r := hr
      unfold zb_X12_lay__53_63_2 at hr
      refine zs_240_2 ?_
      repeat' first | refine And.intro rfl ?_ | refine And.intro (Or.inl rfl) ?_ | refine And.intro (Or.inr rfl) ?_ | refine And.intro (Nat.le_of_ble_eq_true rfl) ?_ | refine And.intro (And.intro rfl rfl) ?_ | exact rfl
      refine And.intro (fun (h1 : 18 ≤ l3) => ?_) (fun (h1 : ¬ (18 ≤ l3)) => ?_)
      · rw [if_pos h1] at hr
        refine zs_240_22 ?_
        repeat' first | refine And.intro rfl ?_ | refine And.intro (Or.inl rfl) ?_ | refine And.intro (Or.inr rfl) ?_ | refine And.intro (Nat.le_of_ble_eq_true rfl) ?_ | refine And.intro (And.intro rfl rfl) ?_ | exact rfl
        cases hr
        repeat' first | refine And.intro rfl ?_ | refine And.intro (Or.inl rfl) ?_ | refine And.intro (Or.inr rfl) ?_ | refine And.intro (Nat.le_of_ble_eq_true rfl) ?_ | refine And.intro (And.intro rfl rfl) ?_ | exact rfl
      · rw [if_neg h1] at hr
        repeat' first | refine And.intro rfl ?_ | refine And.intro (Or.inl rfl) ?_ | refine And.intro (Or.inr rfl) ?_ | refine And.intro (Nat.le_of_ble_eq_true rfl) ?_ | refine And.intro (And.intro rfl rfl) ?_ | exact rfl
        have g1 : ¬ (l3 < 0 ∨ 18 ≤ l3.toNatClampNeg) := zz_g hr
        replace hr := zz_gt hr
        refine And.intro (g1) ?_
        repeat' first | refine And.intro rfl ?_ | refine And.intro (Or.inl rfl) ?_ | refine And.intro (Or.inr rfl) ?_ | refine And.intro (Nat.le_of_ble_eq_true rfl) ?_ | refine And.intro (And.intro rfl rfl) ?_ | exact rfl
        have g2 : ¬ ((l2 + l3) < 0 ∨ 18 ≤ (l2 + l3).toNatClampNeg) := zz_g hr
        replace hr := zz_gt hr
        refine And.intro (g2) ?_
        repeat' first | refine And.intro rfl ?_ | refine And.intro (Or.inl rfl) ?_ | refine And.intro (Or.inr rfl) ?_ | refine And.intro (Nat.le_of_ble_eq_true rfl) ?_ | refine And.intro (And.intro rfl rfl) ?_ | exact rfl
        exact zz_wk [true, true, true, true] rfl (ih2 _ _ _ _ _ hr)
theorem zr_X12_lay__53_63 (F : zz_F) (I : Nat → Nat → Int32) (J : Nat → Nat → Int64) (d N : Nat) (l2 : Int32) (r : Int32 × (Nat → Nat → Int32) × (Nat → Nat → Int64)) (h : zf_X12_lay__53_63 N l2 I J = some r) : zz_run (d) 240 0 [some (.ref 53), some (.ref 63), some (.int (l2)), none] [] (zz_S F I J) none (zz_S F (r.2.1) (J)) := (zq_X12_lay__53_63 F d N N).1 l2 0 I J r h
def zb_X12_lay__53_80_0 (N : Nat) (rec : Nat → Int32 → Int32 → (Nat → Nat → Int32) → (Nat → Nat → Int64) → Option (Int32 × (Nat → Nat → Int32) × (Nat → Nat → Int64))) (l2 : Int32) (l3 : Int32) (I : Nat → Nat → Int32) (J : Nat → Nat → Int64) : Option (Int32 × (Nat → Nat → Int32) × (Nat → Nat → Int64)) := rec 2 l2 0 I J
def zb_X12_lay__53_80_2 (N : Nat) (rec : Nat → Int32 → Int32 → (Nat → Nat → Int32) → (Nat → Nat → Int64) → Option (Int32 × (Nat → Nat → Int32) × (Nat → Nat → Int64))) (l2 : Int32) (l3 : Int32) (I : Nat → Nat → Int32) (J : Nat → Nat → Int64) : Option (Int32 × (Nat → Nat → Int32) × (Nat → Nat → Int64)) := if 18 ≤ l3 then (some (0, I, J)) else (if ¬ (l3 < 0 ∨ 18 ≤ l3.toNatClampNeg) then (if ¬ ((l2 + l3) < 0 ∨ 36 ≤ (l2 + l3).toNatClampNeg) then (rec 2 l2 (l3 + 1) (zz_u I 80 ((l2 + l3).toNatClampNeg) (I 53 l3.toNatClampNeg)) J) else none) else none)
def zl_X12_lay__53_80 (N : Nat) : Nat → Nat → Int32 → Int32 → (Nat → Nat → Int32) → (Nat → Nat → Int64) → Option (Int32 × (Nat → Nat → Int32) × (Nat → Nat → Int64))
  | 0 => fun _ _ _ _ _ => none
  | n + 1 => fun pc l2 l3 I J => if pc = 0 then zb_X12_lay__53_80_0 N (zl_X12_lay__53_80 N n) l2 l3 I J else (if pc = 2 then zb_X12_lay__53_80_2 N (zl_X12_lay__53_80 N n) l2 l3 I J else none)
def zf_X12_lay__53_80 (N : Nat) (l2 : Int32) (I : Nat → Nat → Int32) (J : Nat → Nat → Int64) : Option (Int32 × (Nat → Nat → Int32) × (Nat → Nat → Int64)) := zl_X12_lay__53_80 N N 0 l2 0 I J
theorem zq_X12_lay__53_80 (F : zz_F) (d N : Nat) : ∀ n : Nat, (∀ (l2 : Int32) (l3 : Int32) (I : Nat → Nat → Int32) (J : Nat → Nat → Int64) (r : Int32 × (Nat → Nat → Int32) × (Nat → Nat → Int64)), zl_X12_lay__53_80 N n 0 l2 l3 I J = some r → zz_run (d) 240 0 [some (.ref 53), some (.ref 80), some (.int (l2)), none] [] (zz_S F I J) none (zz_S F (r.2.1) (J))) ∧ (∀ (l2 : Int32) (l3 : Int32) (I : Nat → Nat → Int32) (J : Nat → Nat → Int64) (r : Int32 × (Nat → Nat → Int32) × (Nat → Nat → Int64)), zl_X12_lay__53_80 N n 2 l2 l3 I J = some r → zz_run (d) 240 2 [some (.ref 53), some (.ref 80), some (.int (l2)), some (.int (l3))] [] (zz_S F I J) none (zz_S F (r.2.1) (J))) := by
  intro n
  induction n with
  | zero => exact ⟨fun _ _ _ _ _ h => zz_no h, fun _ _ _ _ _ h => zz_no h⟩
  | succ n ih =>
    obtain ⟨ih0, ih2⟩ := ih
    refine ⟨?_, ?_⟩
    · intro l2 l3 I J r hr
      replace hr : zb_X12_lay__53_80_0 N (zl_X12_lay__53_80 N n) l2 l3 I J = some r := hr
      unfold zb_X12_lay__53_80_0 at hr
      refine zs_240_0 ?_
      repeat' first | refine And.intro rfl ?_ | refine And.intro (Or.inl rfl) ?_ | refine And.intro (Or.inr rfl) ?_ | refine And.intro (Nat.le_of_ble_eq_true rfl) ?_ | refine And.intro (And.intro rfl rfl) ?_ | exact rfl
      exact zz_wk [true, true, true, true] rfl (ih2 _ _ _ _ _ hr)
    · intro l2 l3 I J r hr
      replace hr : zb_X12_lay__53_80_2 N (zl_X12_lay__53_80 N n) l2 l3 I J = some r := hr
      unfold zb_X12_lay__53_80_2 at hr
      refine zs_240_2 ?_
      repeat' first | refine And.intro rfl ?_ | refine And.intro (Or.inl rfl) ?_ | refine And.intro (Or.inr rfl) ?_ | refine And.intro (Nat.le_of_ble_eq_true rfl) ?_ | refine And.intro (And.intro rfl rfl) ?_ | exact rfl
      refine And.intro (fun (h1 : 18 ≤ l3) => ?_) (fun (h1 : ¬ (18 ≤ l3)) => ?_)
      · rw [if_pos h1] at hr
        refine zs_240_22 ?_
        repeat' first | refine And.intro rfl ?_ | refine And.intro (Or.inl rfl) ?_ | refine And.intro (Or.inr rfl) ?_ | refine And.intro (Nat.le_of_ble_eq_true rfl) ?_ | refine And.intro (And.intro rfl rfl) ?_ | exact rfl
        cases hr
        repeat' first | refine And.intro rfl ?_ | refine And.intro (Or.inl rfl) ?_ | refine And.intro (Or.inr rfl) ?_ | refine And.intro (Nat.le_of_ble_eq_true rfl) ?_ | refine And.intro (And.intro rfl rfl) ?_ | exact rfl
      · rw [if_neg h1] at hr
        repeat' first | refine And.intro rfl ?_ | refine And.intro (Or.inl rfl) ?_ | refine And.intro (Or.inr rfl) ?_ | refine And.intro (Nat.le_of_ble_eq_true rfl) ?_ | refine And.intro (And.intro rfl rfl) ?_ | exact rfl
        have g1 : ¬ (l3 < 0 ∨ 18 ≤ l3.toNatClampNeg) := zz_g hr
        replace hr := zz_gt hr
        refine And.intro (g1) ?_
        repeat' first | refine And.intro rfl ?_ | refine And.intro (Or.inl rfl) ?_ | refine And.intro (Or.inr rfl) ?_ | refine And.intro (Nat.le_of_ble_eq_true rfl) ?_ | refine And.intro (And.intro rfl rfl) ?_ | exact rfl
        have g2 : ¬ ((l2 + l3) < 0 ∨ 36 ≤ (l2 + l3).toNatClampNeg) := zz_g hr
        replace hr := zz_gt hr
        refine And.intro (g2) ?_
        repeat' first | refine And.intro rfl ?_ | refine And.intro (Or.inl rfl) ?_ | refine And.intro (Or.inr rfl) ?_ | refine And.intro (Nat.le_of_ble_eq_true rfl) ?_ | refine And.intro (And.intro rfl rfl) ?_ | exact rfl
        exact zz_wk [true, true, true, true] rfl (ih2 _ _ _ _ _ hr)
theorem zr_X12_lay__53_80 (F : zz_F) (I : Nat → Nat → Int32) (J : Nat → Nat → Int64) (d N : Nat) (l2 : Int32) (r : Int32 × (Nat → Nat → Int32) × (Nat → Nat → Int64)) (h : zf_X12_lay__53_80 N l2 I J = some r) : zz_run (d) 240 0 [some (.ref 53), some (.ref 80), some (.int (l2)), none] [] (zz_S F I J) none (zz_S F (r.2.1) (J)) := (zq_X12_lay__53_80 F d N N).1 l2 0 I J r h
def zb_X12_remember__53_0 (N : Nat) (rec : Nat → Int32 → (Nat → Nat → Int32) → (Nat → Nat → Int64) → Option (Int32 × (Nat → Nat → Int32) × (Nat → Nat → Int64))) (l2 : Int32) (I : Nat → Nat → Int32) (J : Nat → Nat → Int64) : Option (Int32 × (Nat → Nat → Int32) × (Nat → Nat → Int64)) := if ¬ (I 52 20) = 12 then ((zf_X12_lay__53_61 N (18 * (I 52 20)) I J).bind fun r1 => some (0, zz_u r1.2.1 52 20 ((r1.2.1 52 20) + 1), J)) else (rec 11 0 I J)
def zb_X12_remember__53_11 (N : Nat) (rec : Nat → Int32 → (Nat → Nat → Int32) → (Nat → Nat → Int64) → Option (Int32 × (Nat → Nat → Int32) × (Nat → Nat → Int64))) (l2 : Int32) (I : Nat → Nat → Int32) (J : Nat → Nat → Int64) : Option (Int32 × (Nat → Nat → Int32) × (Nat → Nat → Int64)) := if 198 ≤ l2 then ((zf_X12_lay__53_61 N (18 * ((I 52 20) - 1)) (zz_u I 52 20 ((I 52 20) - 1)) J).bind fun r2 => some (0, zz_u r2.2.1 52 20 ((r2.2.1 52 20) + 1), J)) else (if ¬ ((l2 + 18) < 0 ∨ 216 ≤ (l2 + 18).toNatClampNeg) then (if ¬ (l2 < 0 ∨ 216 ≤ l2.toNatClampNeg) then (rec 11 (l2 + 1) (zz_u I 61 l2.toNatClampNeg (I 61 ((l2 + 18).toNatClampNeg))) J) else none) else none)
def zl_X12_remember__53 (N : Nat) : Nat → Nat → Int32 → (Nat → Nat → Int32) → (Nat → Nat → Int64) → Option (Int32 × (Nat → Nat → Int32) × (Nat → Nat → Int64))
  | 0 => fun _ _ _ _ => none
  | n + 1 => fun pc l2 I J => if pc = 0 then zb_X12_remember__53_0 N (zl_X12_remember__53 N n) l2 I J else (if pc = 11 then zb_X12_remember__53_11 N (zl_X12_remember__53 N n) l2 I J else none)
def zf_X12_remember__53 (N : Nat)  (I : Nat → Nat → Int32) (J : Nat → Nat → Int64) : Option (Int32 × (Nat → Nat → Int32) × (Nat → Nat → Int64)) := zl_X12_remember__53 N N 0 0 I J
theorem zq_X12_remember__53 (F : zz_F) (d N : Nat) : ∀ n : Nat, (∀ (l2 : Int32) (I : Nat → Nat → Int32) (J : Nat → Nat → Int64) (r : Int32 × (Nat → Nat → Int32) × (Nat → Nat → Int64)), zl_X12_remember__53 N n 0 l2 I J = some r → zz_run (d+1) 241 0 [some (.ref 52), some (.ref 53), none] [] (zz_S F I J) none (zz_S F (r.2.1) (J))) ∧ (∀ (l2 : Int32) (I : Nat → Nat → Int32) (J : Nat → Nat → Int64) (r : Int32 × (Nat → Nat → Int32) × (Nat → Nat → Int64)), zl_X12_remember__53 N n 11 l2 I J = some r → zz_run (d+1) 241 11 [some (.ref 52), some (.ref 53), some (.int (l2))] [] (zz_S F I J) none (zz_S F (r.2.1) (J))) := by
  intro n
  induction n with
  | zero => exact ⟨fun _ _ _ _ h => zz_no h, fun _ _ _ _ h => zz_no h⟩
  | succ n ih =>
    obtain ⟨ih0, ih11⟩ := ih
    refine ⟨?_, ?_⟩
    · intro l2 I J r hr
      replace hr : zb_X12_remember__53_0 N (zl_X12_remember__53 N n) l2 I J = some r := hr
      unfold zb_X12_remember__53_0 at hr
      refine zs_241_0 ?_
      repeat' first | refine And.intro rfl ?_ | refine And.intro (Or.inl rfl) ?_ | refine And.intro (Or.inr rfl) ?_ | refine And.intro (Nat.le_of_ble_eq_true rfl) ?_ | refine And.intro (And.intro rfl rfl) ?_ | exact rfl
      refine And.intro (fun (h1 : ¬ (I 52 20) = 12) => ?_) (fun (h1 : ¬ (¬ (I 52 20) = 12)) => ?_)
      · rw [if_pos h1] at hr
        refine zs_241_49 ?_
        repeat' first | refine And.intro rfl ?_ | refine And.intro (Or.inl rfl) ?_ | refine And.intro (Or.inr rfl) ?_ | refine And.intro (Nat.le_of_ble_eq_true rfl) ?_ | refine And.intro (And.intro rfl rfl) ?_ | exact rfl
        obtain ⟨r1, cr1, hr⟩ := Option.bind_eq_some_iff.mp hr
        refine Exists.intro _ (Exists.intro _ (And.intro (zr_X12_lay__53_61 F I J d N (18 * (I 52 20)) r1 cr1) ?_))
        repeat' first | refine And.intro rfl ?_ | refine And.intro (Or.inl rfl) ?_ | refine And.intro (Or.inr rfl) ?_ | refine And.intro (Nat.le_of_ble_eq_true rfl) ?_ | refine And.intro (And.intro rfl rfl) ?_ | exact rfl
        cases hr
        repeat' first | refine And.intro rfl ?_ | refine And.intro (Or.inl rfl) ?_ | refine And.intro (Or.inr rfl) ?_ | refine And.intro (Nat.le_of_ble_eq_true rfl) ?_ | refine And.intro (And.intro rfl rfl) ?_ | exact rfl
      · rw [if_neg h1] at hr
        repeat' first | refine And.intro rfl ?_ | refine And.intro (Or.inl rfl) ?_ | refine And.intro (Or.inr rfl) ?_ | refine And.intro (Nat.le_of_ble_eq_true rfl) ?_ | refine And.intro (And.intro rfl rfl) ?_ | exact rfl
        exact zz_wk [true, true, true] rfl (ih11 _ _ _ _ hr)
    · intro l2 I J r hr
      replace hr : zb_X12_remember__53_11 N (zl_X12_remember__53 N n) l2 I J = some r := hr
      unfold zb_X12_remember__53_11 at hr
      refine zs_241_11 ?_
      repeat' first | refine And.intro rfl ?_ | refine And.intro (Or.inl rfl) ?_ | refine And.intro (Or.inr rfl) ?_ | refine And.intro (Nat.le_of_ble_eq_true rfl) ?_ | refine And.intro (And.intro rfl rfl) ?_ | exact rfl
      refine And.intro (fun (h2 : 198 ≤ l2) => ?_) (fun (h2 : ¬ (198 ≤ l2)) => ?_)
      · rw [if_pos h2] at hr
        refine zs_241_39 ?_
        repeat' first | refine And.intro rfl ?_ | refine And.intro (Or.inl rfl) ?_ | refine And.intro (Or.inr rfl) ?_ | refine And.intro (Nat.le_of_ble_eq_true rfl) ?_ | refine And.intro (And.intro rfl rfl) ?_ | exact rfl
        refine zs_241_49 ?_
        repeat' first | refine And.intro rfl ?_ | refine And.intro (Or.inl rfl) ?_ | refine And.intro (Or.inr rfl) ?_ | refine And.intro (Nat.le_of_ble_eq_true rfl) ?_ | refine And.intro (And.intro rfl rfl) ?_ | exact rfl
        obtain ⟨r2, cr2, hr⟩ := Option.bind_eq_some_iff.mp hr
        refine Exists.intro _ (Exists.intro _ (And.intro (zr_X12_lay__53_61 F (zz_u I 52 20 ((I 52 20) - 1)) J d N (18 * ((I 52 20) - 1)) r2 cr2) ?_))
        repeat' first | refine And.intro rfl ?_ | refine And.intro (Or.inl rfl) ?_ | refine And.intro (Or.inr rfl) ?_ | refine And.intro (Nat.le_of_ble_eq_true rfl) ?_ | refine And.intro (And.intro rfl rfl) ?_ | exact rfl
        cases hr
        repeat' first | refine And.intro rfl ?_ | refine And.intro (Or.inl rfl) ?_ | refine And.intro (Or.inr rfl) ?_ | refine And.intro (Nat.le_of_ble_eq_true rfl) ?_ | refine And.intro (And.intro rfl rfl) ?_ | exact rfl
      · rw [if_neg h2] at hr
        repeat' first | refine And.intro rfl ?_ | refine And.intro (Or.inl rfl) ?_ | refine And.intro (Or.inr rfl) ?_ | refine And.intro (Nat.le_of_ble_eq_true rfl) ?_ | refine And.intro (And.intro rfl rfl) ?_ | exact rfl
        have g3 : ¬ ((l2 + 18) < 0 ∨ 216 ≤ (l2 + 18).toNatClampNeg) := zz_g hr
        replace hr := zz_gt hr
        refine And.intro (g3) ?_
        repeat' first | refine And.intro rfl ?_ | refine And.intro (Or.inl rfl) ?_ | refine And.intro (Or.inr rfl) ?_ | refine And.intro (Nat.le_of_ble_eq_true rfl) ?_ | refine And.intro (And.intro rfl rfl) ?_ | exact rfl
        have g4 : ¬ (l2 < 0 ∨ 216 ≤ l2.toNatClampNeg) := zz_g hr
        replace hr := zz_gt hr
        refine And.intro (g4) ?_
        repeat' first | refine And.intro rfl ?_ | refine And.intro (Or.inl rfl) ?_ | refine And.intro (Or.inr rfl) ?_ | refine And.intro (Nat.le_of_ble_eq_true rfl) ?_ | refine And.intro (And.intro rfl rfl) ?_ | exact rfl
        exact zz_wk [true, true, true] rfl (ih11 _ _ _ _ hr)
theorem zr_X12_remember__53 (F : zz_F) (I : Nat → Nat → Int32) (J : Nat → Nat → Int64) (d N : Nat)  (r : Int32 × (Nat → Nat → Int32) × (Nat → Nat → Int64)) (h : zf_X12_remember__53 N  I J = some r) : zz_run (d+1) 241 0 [some (.ref 52), some (.ref 53), none] [] (zz_S F I J) none (zz_S F (r.2.1) (J)) := (zq_X12_remember__53 F d N N).1 0 I J r h
