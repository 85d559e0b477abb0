/-! methods with loops, printed by wip/whole/loop.py -/
def zb_X2_firstTake_0 (N : Nat) (rec : Nat → Int32 → Int32 → Int32 → (Nat → Nat → Int32) → (Nat → Nat → Int64) → Option (Int32 × (Nat → Nat → Int32) × (Nat → Nat → Int64))) (l1 : Int32) (l2 : Int32) (l3 : Int32) (I : Nat → Nat → Int32) (J : Nat → Nat → Int64) : Option (Int32 × (Nat → Nat → Int32) × (Nat → Nat → Int64)) := rec 4 l1 1 2 I J
def zb_X2_firstTake_4 (N : Nat) (rec : Nat → Int32 → Int32 → Int32 → (Nat → Nat → Int32) → (Nat → Nat → Int64) → Option (Int32 × (Nat → Nat → Int32) × (Nat → Nat → Int64))) (l1 : Int32) (l2 : Int32) (l3 : Int32) (I : Nat → Nat → Int32) (J : Nat → Nat → Int64) : Option (Int32 × (Nat → Nat → Int32) × (Nat → Nat → Int64)) := if 3 < l3 then (some (l2, I, J)) else (if l1 < l3 then (some (l2, I, J)) else (if (zv_X2_leadByTaking I l1 l3) ≤ (zv_X2_leadByTaking I l1 l2) then (rec 4 l1 l2 (l3 + 1) I J) else (rec 4 l1 l3 (l3 + 1) I J)))
def zl_X2_firstTake (N : Nat) : Nat → Nat → Int32 → Int32 → Int32 → (Nat → Nat → Int32) → (Nat → Nat → Int64) → Option (Int32 × (Nat → Nat → Int32) × (Nat → Nat → Int64))
  | 0 => fun _ _ _ _ _ _ => none
  | n + 1 => fun pc l1 l2 l3 I J => if pc = 0 then zb_X2_firstTake_0 N (zl_X2_firstTake N n) l1 l2 l3 I J else (if pc = 4 then zb_X2_firstTake_4 N (zl_X2_firstTake N n) l1 l2 l3 I J else none)
def zf_X2_firstTake (N : Nat) (l1 : Int32) (I : Nat → Nat → Int32) (J : Nat → Nat → Int64) : Option (Int32 × (Nat → Nat → Int32) × (Nat → Nat → Int64)) := zl_X2_firstTake N N 0 l1 0 0 I J
theorem zq_X2_firstTake (F : zz_F) (d N : Nat) : ∀ n : Nat, (∀ (l1 : Int32) (l2 : Int32) (l3 : Int32) (I : Nat → Nat → Int32) (J : Nat → Nat → Int64) (r : Int32 × (Nat → Nat → Int32) × (Nat → Nat → Int64)), zl_X2_firstTake N n 0 l1 l2 l3 I J = some r → zz_run (d+2) 29 0 [some (.ref 49), some (.int (l1)), none, none] [] (zz_S F I J) (some (.int (r.1))) (zz_S F (I) (J))) ∧ (∀ (l1 : Int32) (l2 : Int32) (l3 : Int32) (I : Nat → Nat → Int32) (J : Nat → Nat → Int64) (r : Int32 × (Nat → Nat → Int32) × (Nat → Nat → Int64)), zl_X2_firstTake N n 4 l1 l2 l3 I J = some r → zz_run (d+2) 29 4 [some (.ref 49), some (.int (l1)), some (.int (l2)), some (.int (l3))] [] (zz_S F I J) (some (.int (r.1))) (zz_S F (I) (J))) := by
  intro n
  induction n with
  | zero => exact ⟨fun _ _ _ _ _ _ h => zz_no h, fun _ _ _ _ _ _ h => zz_no h⟩
  | succ n ih =>
    obtain ⟨ih0, ih4⟩ := ih
    refine ⟨?_, ?_⟩
    · intro l1 l2 l3 I J r hr
      replace hr : zb_X2_firstTake_0 N (zl_X2_firstTake N n) l1 l2 l3 I J = some r := hr
      unfold zb_X2_firstTake_0 at hr
      refine zs_29_0 ?_
      repeat' first | refine And.intro rfl ?_ | refine And.intro (Or.inl rfl) ?_ | refine And.intro (Or.inr rfl) ?_ | refine And.intro (Nat.le_of_ble_eq_true rfl) ?_ | refine And.intro (And.intro rfl rfl) ?_ | exact rfl
      exact zz_wk [true, true, true, true] rfl (ih4 _ _ _ _ _ _ hr)
    · intro l1 l2 l3 I J r hr
      replace hr : zb_X2_firstTake_4 N (zl_X2_firstTake N n) l1 l2 l3 I J = some r := hr
      unfold zb_X2_firstTake_4 at hr
      refine zs_29_4 ?_
      repeat' first | refine And.intro rfl ?_ | refine And.intro (Or.inl rfl) ?_ | refine And.intro (Or.inr rfl) ?_ | refine And.intro (Nat.le_of_ble_eq_true rfl) ?_ | refine And.intro (And.intro rfl rfl) ?_ | exact rfl
      refine And.intro (fun (h1 : 3 < l3) => ?_) (fun (h1 : ¬ (3 < l3)) => ?_)
      · rw [if_pos h1] at hr
        refine zs_29_37 ?_
        repeat' first | refine And.intro rfl ?_ | refine And.intro (Or.inl rfl) ?_ | refine And.intro (Or.inr rfl) ?_ | refine And.intro (Nat.le_of_ble_eq_true rfl) ?_ | refine And.intro (And.intro rfl rfl) ?_ | exact rfl
        cases hr
        repeat' first | refine And.intro rfl ?_ | refine And.intro (Or.inl rfl) ?_ | refine And.intro (Or.inr rfl) ?_ | refine And.intro (Nat.le_of_ble_eq_true rfl) ?_ | refine And.intro (And.intro rfl rfl) ?_ | exact rfl
      · rw [if_neg h1] at hr
        repeat' first | refine And.intro rfl ?_ | refine And.intro (Or.inl rfl) ?_ | refine And.intro (Or.inr rfl) ?_ | refine And.intro (Nat.le_of_ble_eq_true rfl) ?_ | refine And.intro (And.intro rfl rfl) ?_ | exact rfl
        refine And.intro (fun (h2 : l1 < l3) => ?_) (fun (h2 : ¬ (l1 < l3)) => ?_)
        · rw [if_pos h2] at hr
          refine zs_29_37 ?_
          repeat' first | refine And.intro rfl ?_ | refine And.intro (Or.inl rfl) ?_ | refine And.intro (Or.inr rfl) ?_ | refine And.intro (Nat.le_of_ble_eq_true rfl) ?_ | refine And.intro (And.intro rfl rfl) ?_ | exact rfl
          cases hr
          repeat' first | refine And.intro rfl ?_ | refine And.intro (Or.inl rfl) ?_ | refine And.intro (Or.inr rfl) ?_ | refine And.intro (Nat.le_of_ble_eq_true rfl) ?_ | refine And.intro (And.intro rfl rfl) ?_ | exact rfl
        · rw [if_neg h2] at hr
          repeat' first | refine And.intro rfl ?_ | refine And.intro (Or.inl rfl) ?_ | refine And.intro (Or.inr rfl) ?_ | refine And.intro (Nat.le_of_ble_eq_true rfl) ?_ | refine And.intro (And.intro rfl rfl) ?_ | exact rfl
          refine Exists.intro _ (Exists.intro _ (And.intro (zr_X2_leadByTaking F I J d l1 l3) ?_))
          repeat' first | refine And.intro rfl ?_ | refine And.intro (Or.inl rfl) ?_ | refine And.intro (Or.inr rfl) ?_ | refine And.intro (Nat.le_of_ble_eq_true rfl) ?_ | refine And.intro (And.intro rfl rfl) ?_ | exact rfl
          refine Exists.intro _ (Exists.intro _ (And.intro (zr_X2_leadByTaking F I J d l1 l2) ?_))
          repeat' first | refine And.intro rfl ?_ | refine And.intro (Or.inl rfl) ?_ | refine And.intro (Or.inr rfl) ?_ | refine And.intro (Nat.le_of_ble_eq_true rfl) ?_ | refine And.intro (And.intro rfl rfl) ?_ | exact rfl
          refine And.intro (fun (h3 : (zv_X2_leadByTaking I l1 l3) ≤ (zv_X2_leadByTaking I l1 l2)) => ?_) (fun (h3 : ¬ ((zv_X2_leadByTaking I l1 l3) ≤ (zv_X2_leadByTaking I l1 l2))) => ?_)
          · rw [if_pos h3] at hr
            refine zs_29_31 ?_
            repeat' first | refine And.intro rfl ?_ | refine And.intro (Or.inl rfl) ?_ | refine And.intro (Or.inr rfl) ?_ | refine And.intro (Nat.le_of_ble_eq_true rfl) ?_ | refine And.intro (And.intro rfl rfl) ?_ | exact rfl
            exact zz_wk [true, true, true, true] rfl (ih4 _ _ _ _ _ _ hr)
          · rw [if_neg h3] at hr
            repeat' first | refine And.intro rfl ?_ | refine And.intro (Or.inl rfl) ?_ | refine And.intro (Or.inr rfl) ?_ | refine And.intro (Nat.le_of_ble_eq_true rfl) ?_ | refine And.intro (And.intro rfl rfl) ?_ | exact rfl
            refine zs_29_31 ?_
            repeat' first | refine And.intro rfl ?_ | refine And.intro (Or.inl rfl) ?_ | refine And.intro (Or.inr rfl) ?_ | refine And.intro (Nat.le_of_ble_eq_true rfl) ?_ | refine And.intro (And.intro rfl rfl) ?_ | exact rfl
            exact zz_wk [true, true, true, true] rfl (ih4 _ _ _ _ _ _ hr)
theorem zr_X2_firstTake (F : zz_F) (I : Nat → Nat → Int32) (J : Nat → Nat → Int64) (d N : Nat) (l1 : Int32) (r : Int32 × (Nat → Nat → Int32) × (Nat → Nat → Int64)) (h : zf_X2_firstTake N l1 I J = some r) : zz_run (d+2) 29 0 [some (.ref 49), some (.int (l1)), none, none] [] (zz_S F I J) (some (.int (r.1))) (zz_S F (I) (J)) := (zq_X2_firstTake F d N N).1 l1 0 0 I J r h
def zb_X2_fitting_0 (N : Nat) (rec : Nat → Int32 → Int32 → Int32 → Int32 → (Nat → Nat → Int32) → (Nat → Nat → Int64) → Option (Int32 × (Nat → Nat → Int32) × (Nat → Nat → Int64))) (l1 : Int32) (l2 : Int32) (l3 : Int32) (l4 : Int32) (I : Nat → Nat → Int32) (J : Nat → Nat → Int64) : Option (Int32 × (Nat → Nat → Int32) × (Nat → Nat → Int64)) := rec 5 l1 l2 0 0 I J
def zb_X2_fitting_5 (N : Nat) (rec : Nat → Int32 → Int32 → Int32 → Int32 → (Nat → Nat → Int32) → (Nat → Nat → Int64) → Option (Int32 × (Nat → Nat → Int32) × (Nat → Nat → Int64))) (l1 : Int32) (l2 : Int32) (l3 : Int32) (l4 : Int32) (I : Nat → Nat → Int32) (J : Nat → Nat → Int64) : Option (Int32 × (Nat → Nat → Int32) × (Nat → Nat → Int64)) := if (I 5 2) ≤ l4 then (some (l3, I, J)) else (if ¬ ((zz_f I l4 2) &&& l1) = l2 then (rec 5 l1 l2 l3 (l4 + 1) I J) else (rec 5 l1 l2 (l3 ||| ((1 : Int32) <<< (l4 &&& 31))) (l4 + 1) I J))
def zl_X2_fitting (N : Nat) : Nat → Nat → Int32 → Int32 → Int32 → Int32 → (Nat → Nat → Int32) → (Nat → Nat → Int64) → Option (Int32 × (Nat → Nat → Int32) × (Nat → Nat → Int64))
  | 0 => fun _ _ _ _ _ _ _ => none
  | n + 1 => fun pc l1 l2 l3 l4 I J => if pc = 0 then zb_X2_fitting_0 N (zl_X2_fitting N n) l1 l2 l3 l4 I J else (if pc = 5 then zb_X2_fitting_5 N (zl_X2_fitting N n) l1 l2 l3 l4 I J else none)
def zf_X2_fitting (N : Nat) (l1 : Int32) (l2 : Int32) (I : Nat → Nat → Int32) (J : Nat → Nat → Int64) : Option (Int32 × (Nat → Nat → Int32) × (Nat → Nat → Int64)) := zl_X2_fitting N N 0 l1 l2 0 0 I J
theorem zq_X2_fitting (F : zz_F) (d N : Nat) : ∀ n : Nat, (∀ (l1 : Int32) (l2 : Int32) (l3 : Int32) (l4 : Int32) (I : Nat → Nat → Int32) (J : Nat → Nat → Int64) (r : Int32 × (Nat → Nat → Int32) × (Nat → Nat → Int64)), zl_X2_fitting N n 0 l1 l2 l3 l4 I J = some r → zz_run (d+1) 30 0 [some (.ref 49), some (.int (l1)), some (.int (l2)), none, none] [] (zz_S F I J) (some (.int (r.1))) (zz_S F (I) (J))) ∧ (∀ (l1 : Int32) (l2 : Int32) (l3 : Int32) (l4 : Int32) (I : Nat → Nat → Int32) (J : Nat → Nat → Int64) (r : Int32 × (Nat → Nat → Int32) × (Nat → Nat → Int64)), zl_X2_fitting N n 5 l1 l2 l3 l4 I J = some r → zz_run (d+1) 30 5 [some (.ref 49), some (.int (l1)), some (.int (l2)), some (.int (l3)), some (.int (l4))] [] (zz_S F I J) (some (.int (r.1))) (zz_S F (I) (J))) := by
  intro n
  induction n with
  | zero => exact ⟨fun _ _ _ _ _ _ _ h => zz_no h, fun _ _ _ _ _ _ _ h => zz_no h⟩
  | succ n ih =>
    obtain ⟨ih0, ih5⟩ := ih
    refine ⟨?_, ?_⟩
    · intro l1 l2 l3 l4 I J r hr
      replace hr : zb_X2_fitting_0 N (zl_X2_fitting N n) l1 l2 l3 l4 I J = some r := hr
      unfold zb_X2_fitting_0 at hr
      refine zs_30_0 ?_
      repeat' first | refine And.intro rfl ?_ | refine And.intro (Or.inl rfl) ?_ | refine And.intro (Or.inr rfl) ?_ | refine And.intro (Nat.le_of_ble_eq_true rfl) ?_ | refine And.intro (And.intro rfl rfl) ?_ | exact rfl
      exact zz_wk [true, true, true, true, true] rfl (ih5 _ _ _ _ _ _ _ hr)
    · intro l1 l2 l3 l4 I J r hr
      replace hr : zb_X2_fitting_5 N (zl_X2_fitting N n) l1 l2 l3 l4 I J = some r := hr
      unfold zb_X2_fitting_5 at hr
      refine zs_30_5 ?_
      repeat' first | refine And.intro rfl ?_ | refine And.intro (Or.inl rfl) ?_ | refine And.intro (Or.inr rfl) ?_ | refine And.intro (Nat.le_of_ble_eq_true rfl) ?_ | refine And.intro (And.intro rfl rfl) ?_ | exact rfl
      refine And.intro (fun (h1 : (I 5 2) ≤ l4) => ?_) (fun (h1 : ¬ ((I 5 2) ≤ l4)) => ?_)
      · rw [if_pos h1] at hr
        refine zs_30_46 ?_
        repeat' first | refine And.intro rfl ?_ | refine And.intro (Or.inl rfl) ?_ | refine And.intro (Or.inr rfl) ?_ | refine And.intro (Nat.le_of_ble_eq_true rfl) ?_ | refine And.intro (And.intro rfl rfl) ?_ | exact rfl
        cases hr
        repeat' first | refine And.intro rfl ?_ | refine And.intro (Or.inl rfl) ?_ | refine And.intro (Or.inr rfl) ?_ | refine And.intro (Nat.le_of_ble_eq_true rfl) ?_ | refine And.intro (And.intro rfl rfl) ?_ | exact rfl
      · rw [if_neg h1] at hr
        repeat' first | refine And.intro rfl ?_ | refine And.intro (Or.inl rfl) ?_ | refine And.intro (Or.inr rfl) ?_ | refine And.intro (Nat.le_of_ble_eq_true rfl) ?_ | refine And.intro (And.intro rfl rfl) ?_ | exact rfl
        refine Exists.intro _ (Exists.intro _ (And.intro (zr_of F I J d l4 2) ?_))
        repeat' first | refine And.intro rfl ?_ | refine And.intro (Or.inl rfl) ?_ | refine And.intro (Or.inr rfl) ?_ | refine And.intro (Nat.le_of_ble_eq_true rfl) ?_ | refine And.intro (And.intro rfl rfl) ?_ | exact rfl
        refine And.intro (fun (h2 : ¬ ((zz_f I l4 2) &&& l1) = l2) => ?_) (fun (h2 : ¬ (¬ ((zz_f I l4 2) &&& l1) = l2)) => ?_)
        · rw [if_pos h2] at hr
          refine zs_30_40 ?_
          repeat' first | refine And.intro rfl ?_ | refine And.intro (Or.inl rfl) ?_ | refine And.intro (Or.inr rfl) ?_ | refine And.intro (Nat.le_of_ble_eq_true rfl) ?_ | refine And.intro (And.intro rfl rfl) ?_ | exact rfl
          exact zz_wk [true, true, true, true, true] rfl (ih5 _ _ _ _ _ _ _ hr)
        · rw [if_neg h2] at hr
          repeat' first | refine And.intro rfl ?_ | refine And.intro (Or.inl rfl) ?_ | refine And.intro (Or.inr rfl) ?_ | refine And.intro (Nat.le_of_ble_eq_true rfl) ?_ | refine And.intro (And.intro rfl rfl) ?_ | exact rfl
          refine zs_30_40 ?_
          repeat' first | refine And.intro rfl ?_ | refine And.intro (Or.inl rfl) ?_ | refine And.intro (Or.inr rfl) ?_ | refine And.intro (Nat.le_of_ble_eq_true rfl) ?_ | refine And.intro (And.intro rfl rfl) ?_ | exact rfl
          exact zz_wk [true, true, true, true, true] rfl (ih5 _ _ _ _ _ _ _ hr)
theorem zr_X2_fitting (F : zz_F) (I : Nat → Nat → Int32) (J : Nat → Nat → Int64) (d N : Nat) (l1 : Int32) (l2 : Int32) (r : Int32 × (Nat → Nat → Int32) × (Nat → Nat → Int64)) (h : zf_X2_fitting N l1 l2 I J = some r) : zz_run (d+1) 30 0 [some (.ref 49), some (.int (l1)), some (.int (l2)), none, none] [] (zz_S F I J) (some (.int (r.1))) (zz_S F (I) (J)) := (zq_X2_fitting F d N N).1 l1 l2 0 0 I J r h
def zb_X2_mostLeft_0 (N : Nat) (rec : Nat → Int32 → Int32 → Int32 → (Nat → Nat → Int32) → (Nat → Nat → Int64) → Option (Int32 × (Nat → Nat → Int32) × (Nat → Nat → Int64))) (l1 : Int32) (l2 : Int32) (l3 : Int32) (I : Nat → Nat → Int32) (J : Nat → Nat → Int64) : Option (Int32 × (Nat → Nat → Int32) × (Nat → Nat → Int64)) := (zf_X2_scenesWith N ((1 : Int32) <<< (l2 &&& 31)) I J).bind fun r1 => some (zz_max (zv_J6_bitCount (l1 &&& r1.1)) ((zv_J6_bitCount l1) - (zv_J6_bitCount (l1 &&& r1.1))), I, J)
def zl_X2_mostLeft (N : Nat) : Nat → Nat → Int32 → Int32 → Int32 → (Nat → Nat → Int32) → (Nat → Nat → Int64) → Option (Int32 × (Nat → Nat → Int32) × (Nat → Nat → Int64))
  | 0 => fun _ _ _ _ _ _ => none
  | n + 1 => fun pc l1 l2 l3 I J => if pc = 0 then zb_X2_mostLeft_0 N (zl_X2_mostLeft N n) l1 l2 l3 I J else none
def zf_X2_mostLeft (N : Nat) (l1 : Int32) (l2 : Int32) (I : Nat → Nat → Int32) (J : Nat → Nat → Int64) : Option (Int32 × (Nat → Nat → Int32) × (Nat → Nat → Int64)) := zl_X2_mostLeft N N 0 l1 l2 0 I J
theorem zq_X2_mostLeft (F : zz_F) (d N : Nat) : ∀ n : Nat, (∀ (l1 : Int32) (l2 : Int32) (l3 : Int32) (I : Nat → Nat → Int32) (J : Nat → Nat → Int64) (r : Int32 × (Nat → Nat → Int32) × (Nat → Nat → Int64)), zl_X2_mostLeft N n 0 l1 l2 l3 I J = some r → zz_run (d+2) 31 0 [some (.ref 49), some (.int (l1)), some (.int (l2)), none] [] (zz_S F I J) (some (.int (r.1))) (zz_S F (I) (J))) := by
  intro n
  induction n with
  | zero => exact fun _ _ _ _ _ _ h => zz_no h
  | succ n ih =>
    have ih0 := ih
    skip
    · intro l1 l2 l3 I J r hr
      replace hr : zb_X2_mostLeft_0 N (zl_X2_mostLeft N n) l1 l2 l3 I J = some r := hr
      unfold zb_X2_mostLeft_0 at hr
      refine zs_31_0 ?_
      repeat' first | refine And.intro rfl ?_ | refine And.intro (Or.inl rfl) ?_ | refine And.intro (Or.inr rfl) ?_ | refine And.intro (Nat.le_of_ble_eq_true rfl) ?_ | refine And.intro (And.intro rfl rfl) ?_ | exact rfl
      obtain ⟨r1, cr1, hr⟩ := Option.bind_eq_some_iff.mp hr
      refine Exists.intro _ (Exists.intro _ (And.intro (zr_X2_scenesWith F I J d N ((1 : Int32) <<< (l2 &&& 31)) r1 cr1) ?_))
      repeat' first | refine And.intro rfl ?_ | refine And.intro (Or.inl rfl) ?_ | refine And.intro (Or.inr rfl) ?_ | refine And.intro (Nat.le_of_ble_eq_true rfl) ?_ | refine And.intro (And.intro rfl rfl) ?_ | exact rfl
      refine Exists.intro _ (Exists.intro _ (And.intro (zr_J6_bitCount F I J (d+1) (l1 &&& r1.1)) ?_))
      repeat' first | refine And.intro rfl ?_ | refine And.intro (Or.inl rfl) ?_ | refine And.intro (Or.inr rfl) ?_ | refine And.intro (Nat.le_of_ble_eq_true rfl) ?_ | refine And.intro (And.intro rfl rfl) ?_ | exact rfl
      refine Exists.intro _ (Exists.intro _ (And.intro (zr_J6_bitCount F I J (d+1) l1) ?_))
      repeat' first | refine And.intro rfl ?_ | refine And.intro (Or.inl rfl) ?_ | refine And.intro (Or.inr rfl) ?_ | refine And.intro (Nat.le_of_ble_eq_true rfl) ?_ | refine And.intro (And.intro rfl rfl) ?_ | exact rfl
      refine Exists.intro _ (Exists.intro _ (And.intro (zr_max F I J (d+1) (zv_J6_bitCount (l1 &&& r1.1)) ((zv_J6_bitCount l1) - (zv_J6_bitCount (l1 &&& r1.1)))) ?_))
      repeat' first | refine And.intro rfl ?_ | refine And.intro (Or.inl rfl) ?_ | refine And.intro (Or.inr rfl) ?_ | refine And.intro (Nat.le_of_ble_eq_true rfl) ?_ | refine And.intro (And.intro rfl rfl) ?_ | exact rfl
      cases hr
      repeat' first | refine And.intro rfl ?_ | refine And.intro (Or.inl rfl) ?_ | refine And.intro (Or.inr rfl) ?_ | refine And.intro (Nat.le_of_ble_eq_true rfl) ?_ | refine And.intro (And.intro rfl rfl) ?_ | exact rfl
theorem zr_X2_mostLeft (F : zz_F) (I : Nat → Nat → Int32) (J : Nat → Nat → Int64) (d N : Nat) (l1 : Int32) (l2 : Int32) (r : Int32 × (Nat → Nat → Int32) × (Nat → Nat → Int64)) (h : zf_X2_mostLeft N l1 l2 I J = some r) : zz_run (d+2) 31 0 [some (.ref 49), some (.int (l1)), some (.int (l2)), none] [] (zz_S F I J) (some (.int (r.1))) (zz_S F (I) (J)) := (zq_X2_mostLeft F d N N) l1 l2 0 I J r h
def zb_X4_setCosts__28_0 (N : Nat) (rec : Nat → Int32 → Int32 → Int32 → Int32 → (Nat → Nat → Int32) → (Nat → Nat → Int64) → Option (Int32 × (Nat → Nat → Int32) × (Nat → Nat → Int64))) (l2 : Int32) (l3 : Int32) (l4 : Int32) (l5 : Int32) (I : Nat → Nat → Int32) (J : Nat → Nat → Int64) : Option (Int32 × (Nat → Nat → Int32) × (Nat → Nat → Int64)) := rec 2 l2 0 0 0 I J
def zb_X4_setCosts__28_2 (N : Nat) (rec : Nat → Int32 → Int32 → Int32 → Int32 → (Nat → Nat → Int32) → (Nat → Nat → Int64) → Option (Int32 × (Nat → Nat → Int32) × (Nat → Nat → Int64))) (l2 : Int32) (l3 : Int32) (l4 : Int32) (l5 : Int32) (I : Nat → Nat → Int32) (J : Nat → Nat → Int64) : Option (Int32 × (Nat → Nat → Int32) × (Nat → Nat → Int64)) := if 12 ≤ l3 then (some (0, I, J)) else (rec 22 l2 l3 (zz_f I l3 1) 0 I J)
def zb_X4_setCosts__28_22 (N : Nat) (rec : Nat → Int32 → Int32 → Int32 → Int32 → (Nat → Nat → Int32) → (Nat → Nat → Int64) → Option (Int32 × (Nat → Nat → Int32) × (Nat → Nat → Int64))) (l2 : Int32) (l3 : Int32) (l4 : Int32) (l5 : Int32) (I : Nat → Nat → Int32) (J : Nat → Nat → Int64) : Option (Int32 × (Nat → Nat → Int32) × (Nat → Nat → Int64)) := if 12 ≤ l5 then (if (¬ (l2 < 0)) → (¬ (12 ≤ l2)) → (¬ (l3 < 0)) → (l3 < 12) → (¬ (((l2 * 12) + l3) < 0 ∨ 144 ≤ ((l2 * 12) + l3).toNatClampNeg)) then (if ¬ ((144 + l3) < 0 ∨ 156 ≤ (144 + l3).toNatClampNeg) then (rec 2 l2 (l3 + 1) 0 0 (zz_u I 42 ((144 + l3).toNatClampNeg) ((zv_X1_between I l2 l3) + l4)) J) else none) else none) else (if (¬ (l5 < 0)) → (¬ (12 ≤ l5)) → (¬ (l3 < 0)) → (l3 < 12) → (¬ (((l5 * 12) + l3) < 0 ∨ 144 ≤ ((l5 * 12) + l3).toNatClampNeg)) then (if ¬ (((l5 * 12) + l3) < 0 ∨ 156 ≤ ((l5 * 12) + l3).toNatClampNeg) then (rec 22 l2 l3 l4 (l5 + 1) (zz_u I 42 (((l5 * 12) + l3).toNatClampNeg) ((zv_X1_between I l5 l3) + l4)) J) else none) else none)
def zl_X4_setCosts__28 (N : Nat) : Nat → Nat → Int32 → Int32 → Int32 → Int32 → (Nat → Nat → Int32) → (Nat → Nat → Int64) → Option (Int32 × (Nat → Nat → Int32) × (Nat → Nat → Int64))
  | 0 => fun _ _ _ _ _ _ _ => none
  | n + 1 => fun pc l2 l3 l4 l5 I J => if pc = 0 then zb_X4_setCosts__28_0 N (zl_X4_setCosts__28 N n) l2 l3 l4 l5 I J else (if pc = 2 then zb_X4_setCosts__28_2 N (zl_X4_setCosts__28 N n) l2 l3 l4 l5 I J else (if pc = 22 then zb_X4_setCosts__28_22 N (zl_X4_setCosts__28 N n) l2 l3 l4 l5 I J else none))
def zf_X4_setCosts__28 (N : Nat) (l2 : Int32) (I : Nat → Nat → Int32) (J : Nat → Nat → Int64) : Option (Int32 × (Nat → Nat → Int32) × (Nat → Nat → Int64)) := zl_X4_setCosts__28 N N 0 l2 0 0 0 I J
theorem zq_X4_setCosts__28 (F : zz_F) (d N : Nat) : ∀ n : Nat, (∀ (l2 : Int32) (l3 : Int32) (l4 : Int32) (l5 : Int32) (I : Nat → Nat → Int32) (J : Nat → Nat → Int64) (r : Int32 × (Nat → Nat → Int32) × (Nat → Nat → Int64)), zl_X4_setCosts__28 N n 0 l2 l3 l4 l5 I J = some r → zz_run (d+1) 46 0 [some (.ref 41), some (.ref 28), some (.int (l2)), none, none, none] [] (zz_S F I J) none (zz_S F (r.2.1) (J))) ∧ (∀ (l2 : Int32) (l3 : Int32) (l4 : Int32) (l5 : Int32) (I : Nat → Nat → Int32) (J : Nat → Nat → Int64) (r : Int32 × (Nat → Nat → Int32) × (Nat → Nat → Int64)), zl_X4_setCosts__28 N n 2 l2 l3 l4 l5 I J = some r → zz_run (d+1) 46 2 [some (.ref 41), some (.ref 28), some (.int (l2)), some (.int (l3)), none, none] [] (zz_S F I J) none (zz_S F (r.2.1) (J))) ∧ (∀ (l2 : Int32) (l3 : Int32) (l4 : Int32) (l5 : Int32) (I : Nat → Nat → Int32) (J : Nat → Nat → Int64) (r : Int32 × (Nat → Nat → Int32) × (Nat → Nat → Int64)), zl_X4_setCosts__28 N n 22 l2 l3 l4 l5 I J = some r → zz_run (d+1) 46 22 [some (.ref 41), some (.ref 28), some (.int (l2)), some (.int (l3)), some (.int (l4)), some (.int (l5))] [] (zz_S F I J) none (zz_S F (r.2.1) (J))) := by
  intro n
  induction n with
  | zero => exact ⟨fun _ _ _ _ _ _ _ h => zz_no h, fun _ _ _ _ _ _ _ h => zz_no h, fun _ _ _ _ _ _ _ h => zz_no h⟩
  | succ n ih =>
    obtain ⟨ih0, ih2, ih22⟩ := ih
    refine ⟨?_, ?_, ?_⟩
    · intro l2 l3 l4 l5 I J r hr
      replace hr : zb_X4_setCosts__28_0 N (zl_X4_setCosts__28 N n) l2 l3 l4 l5 I J = some r := hr
      unfold zb_X4_setCosts__28_0 at hr
      refine zs_46_0 ?_
      repeat' first | refine And.intro rfl ?_ | refine And.intro (Or.inl rfl) ?_ | refine And.intro (Or.inr rfl) ?_ | refine And.intro (Nat.le_of_ble_eq_true rfl) ?_ | refine And.intro (And.intro rfl rfl) ?_ | exact rfl
      exact zz_wk [true, true, true, true, false, false] rfl (ih2 _ _ _ _ _ _ _ hr)
    · intro l2 l3 l4 l5 I J r hr
      replace hr : zb_X4_setCosts__28_2 N (zl_X4_setCosts__28 N n) l2 l3 l4 l5 I J = some r := hr
      unfold zb_X4_setCosts__28_2 at hr
      refine zs_46_2 ?_
      repeat' first | refine And.intro rfl ?_ | refine And.intro (Or.inl rfl) ?_ | refine And.intro (Or.inr rfl) ?_ | refine And.intro (Nat.le_of_ble_eq_true rfl) ?_ | refine And.intro (And.intro rfl rfl) ?_ | exact rfl
      refine And.intro (fun (h1 : 12 ≤ l3) => ?_) (fun (h1 : ¬ (12 ≤ l3)) => ?_)
      · rw [if_pos h1] at hr
        refine zs_46_82 ?_
        repeat' first | refine And.intro rfl ?_ | refine And.intro (Or.inl rfl) ?_ | refine And.intro (Or.inr rfl) ?_ | refine And.intro (Nat.le_of_ble_eq_true rfl) ?_ | refine And.intro (And.intro rfl rfl) ?_ | exact rfl
        cases hr
        repeat' first | refine And.intro rfl ?_ | refine And.intro (Or.inl rfl) ?_ | refine And.intro (Or.inr rfl) ?_ | refine And.intro (Nat.le_of_ble_eq_true rfl) ?_ | refine And.intro (And.intro rfl rfl) ?_ | exact rfl
      · rw [if_neg h1] at hr
        repeat' first | refine And.intro rfl ?_ | refine And.intro (Or.inl rfl) ?_ | refine And.intro (Or.inr rfl) ?_ | refine And.intro (Nat.le_of_ble_eq_true rfl) ?_ | refine And.intro (And.intro rfl rfl) ?_ | exact rfl
        refine Exists.intro _ (Exists.intro _ (And.intro (zr_of F I J d l3 1) ?_))
        repeat' first | refine And.intro rfl ?_ | refine And.intro (Or.inl rfl) ?_ | refine And.intro (Or.inr rfl) ?_ | refine And.intro (Nat.le_of_ble_eq_true rfl) ?_ | refine And.intro (And.intro rfl rfl) ?_ | exact rfl
        exact zz_wk [true, true, true, true, true, true] rfl (ih22 _ _ _ _ _ _ _ hr)
    · intro l2 l3 l4 l5 I J r hr
      replace hr : zb_X4_setCosts__28_22 N (zl_X4_setCosts__28 N n) l2 l3 l4 l5 I J = some r := hr
      unfold zb_X4_setCosts__28_22 at hr
      refine zs_46_22 ?_
      repeat' first | refine And.intro rfl ?_ | refine And.intro (Or.inl rfl) ?_ | refine And.intro (Or.inr rfl) ?_ | refine And.intro (Nat.le_of_ble_eq_true rfl) ?_ | refine And.intro (And.intro rfl rfl) ?_ | exact rfl
      refine And.intro (fun (h2 : 12 ≤ l5) => ?_) (fun (h2 : ¬ (12 ≤ l5)) => ?_)
      · rw [if_pos h2] at hr
        refine zs_46_57 ?_
        repeat' first | refine And.intro rfl ?_ | refine And.intro (Or.inl rfl) ?_ | refine And.intro (Or.inr rfl) ?_ | refine And.intro (Nat.le_of_ble_eq_true rfl) ?_ | refine And.intro (And.intro rfl rfl) ?_ | exact rfl
        have g1 : (¬ (l2 < 0)) → (¬ (12 ≤ l2)) → (¬ (l3 < 0)) → (l3 < 12) → (¬ (((l2 * 12) + l3) < 0 ∨ 144 ≤ ((l2 * 12) + l3).toNatClampNeg)) := zz_g hr
        replace hr := zz_gt hr
        refine Exists.intro _ (Exists.intro _ (And.intro (zr_X1_between F I J d l2 l3 g1) ?_))
        repeat' first | refine And.intro rfl ?_ | refine And.intro (Or.inl rfl) ?_ | refine And.intro (Or.inr rfl) ?_ | refine And.intro (Nat.le_of_ble_eq_true rfl) ?_ | refine And.intro (And.intro rfl rfl) ?_ | exact rfl
        have g2 : ¬ ((144 + l3) < 0 ∨ 156 ≤ (144 + l3).toNatClampNeg) := zz_g hr
        replace hr := zz_gt hr
        refine And.intro (g2) ?_
        repeat' first | refine And.intro rfl ?_ | refine And.intro (Or.inl rfl) ?_ | refine And.intro (Or.inr rfl) ?_ | refine And.intro (Nat.le_of_ble_eq_true rfl) ?_ | refine And.intro (And.intro rfl rfl) ?_ | exact rfl
        exact zz_wk [true, true, true, true, false, false] rfl (ih2 _ _ _ _ _ _ _ hr)
      · rw [if_neg h2] at hr
        repeat' first | refine And.intro rfl ?_ | refine And.intro (Or.inl rfl) ?_ | refine And.intro (Or.inr rfl) ?_ | refine And.intro (Nat.le_of_ble_eq_true rfl) ?_ | refine And.intro (And.intro rfl rfl) ?_ | exact rfl
        have g3 : (¬ (l5 < 0)) → (¬ (12 ≤ l5)) → (¬ (l3 < 0)) → (l3 < 12) → (¬ (((l5 * 12) + l3) < 0 ∨ 144 ≤ ((l5 * 12) + l3).toNatClampNeg)) := zz_g hr
        replace hr := zz_gt hr
        refine Exists.intro _ (Exists.intro _ (And.intro (zr_X1_between F I J d l5 l3 g3) ?_))
        repeat' first | refine And.intro rfl ?_ | refine And.intro (Or.inl rfl) ?_ | refine And.intro (Or.inr rfl) ?_ | refine And.intro (Nat.le_of_ble_eq_true rfl) ?_ | refine And.intro (And.intro rfl rfl) ?_ | exact rfl
        have g4 : ¬ (((l5 * 12) + l3) < 0 ∨ 156 ≤ ((l5 * 12) + l3).toNatClampNeg) := zz_g hr
        replace hr := zz_gt hr
        refine And.intro (g4) ?_
        repeat' first | refine And.intro rfl ?_ | refine And.intro (Or.inl rfl) ?_ | refine And.intro (Or.inr rfl) ?_ | refine And.intro (Nat.le_of_ble_eq_true rfl) ?_ | refine And.intro (And.intro rfl rfl) ?_ | exact rfl
        exact zz_wk [true, true, true, true, true, true] rfl (ih22 _ _ _ _ _ _ _ hr)
theorem zr_X4_setCosts__28 (F : zz_F) (I : Nat → Nat → Int32) (J : Nat → Nat → Int64) (d N : Nat) (l2 : Int32) (r : Int32 × (Nat → Nat → Int32) × (Nat → Nat → Int64)) (h : zf_X4_setCosts__28 N l2 I J = some r) : zz_run (d+1) 46 0 [some (.ref 41), some (.ref 28), some (.int (l2)), none, none, none] [] (zz_S F I J) none (zz_S F (r.2.1) (J)) := (zq_X4_setCosts__28 F d N N).1 l2 0 0 0 I J r h
def zb_X4_setCosts__32_0 (N : Nat) (rec : Nat → Int32 → Int32 → Int32 → Int32 → (Nat → Nat → Int32) → (Nat → Nat → Int64) → Option (Int32 × (Nat → Nat → Int32) × (Nat → Nat → Int64))) (l2 : Int32) (l3 : Int32) (l4 : Int32) (l5 : Int32) (I : Nat → Nat → Int32) (J : Nat → Nat → Int64) : Option (Int32 × (Nat → Nat → Int32) × (Nat → Nat → Int64)) := rec 2 l2 0 0 0 I J
def zb_X4_setCosts__32_2 (N : Nat) (rec : Nat → Int32 → Int32 → Int32 → Int32 → (Nat → Nat → Int32) → (Nat → Nat → Int64) → Option (Int32 × (Nat → Nat → Int32) × (Nat → Nat → Int64))) (l2 : Int32) (l3 : Int32) (l4 : Int32) (l5 : Int32) (I : Nat → Nat → Int32) (J : Nat → Nat → Int64) : Option (Int32 × (Nat → Nat → Int32) × (Nat → Nat → Int64)) := if 12 ≤ l3 then (some (0, I, J)) else (rec 22 l2 l3 (zz_f I l3 1) 0 I J)
def zb_X4_setCosts__32_22 (N : Nat) (rec : Nat → Int32 → Int32 → Int32 → Int32 → (Nat → Nat → Int32) → (Nat → Nat → Int64) → Option (Int32 × (Nat → Nat → Int32) × (Nat → Nat → Int64))) (l2 : Int32) (l3 : Int32) (l4 : Int32) (l5 : Int32) (I : Nat → Nat → Int32) (J : Nat → Nat → Int64) : Option (Int32 × (Nat → Nat → Int32) × (Nat → Nat → Int64)) := if 12 ≤ l5 then (if (¬ (l2 < 0)) → (¬ (12 ≤ l2)) → (¬ (l3 < 0)) → (l3 < 12) → (¬ (((l2 * 12) + l3) < 0 ∨ 144 ≤ ((l2 * 12) + l3).toNatClampNeg)) then (if ¬ ((144 + l3) < 0 ∨ 156 ≤ (144 + l3).toNatClampNeg) then (rec 2 l2 (l3 + 1) 0 0 (zz_u I 42 ((144 + l3).toNatClampNeg) ((zv_X1_between_32 I l2 l3) + l4)) J) else none) else none) else (if (¬ (l5 < 0)) → (¬ (12 ≤ l5)) → (¬ (l3 < 0)) → (l3 < 12) → (¬ (((l5 * 12) + l3) < 0 ∨ 144 ≤ ((l5 * 12) + l3).toNatClampNeg)) then (if ¬ (((l5 * 12) + l3) < 0 ∨ 156 ≤ ((l5 * 12) + l3).toNatClampNeg) then (rec 22 l2 l3 l4 (l5 + 1) (zz_u I 42 (((l5 * 12) + l3).toNatClampNeg) ((zv_X1_between_32 I l5 l3) + l4)) J) else none) else none)
def zl_X4_setCosts__32 (N : Nat) : Nat → Nat → Int32 → Int32 → Int32 → Int32 → (Nat → Nat → Int32) → (Nat → Nat → Int64) → Option (Int32 × (Nat → Nat → Int32) × (Nat → Nat → Int64))
  | 0 => fun _ _ _ _ _ _ _ => none
  | n + 1 => fun pc l2 l3 l4 l5 I J => if pc = 0 then zb_X4_setCosts__32_0 N (zl_X4_setCosts__32 N n) l2 l3 l4 l5 I J else (if pc = 2 then zb_X4_setCosts__32_2 N (zl_X4_setCosts__32 N n) l2 l3 l4 l5 I J else (if pc = 22 then zb_X4_setCosts__32_22 N (zl_X4_setCosts__32 N n) l2 l3 l4 l5 I J else none))
def zf_X4_setCosts__32 (N : Nat) (l2 : Int32) (I : Nat → Nat → Int32) (J : Nat → Nat → Int64) : Option (Int32 × (Nat → Nat → Int32) × (Nat → Nat → Int64)) := zl_X4_setCosts__32 N N 0 l2 0 0 0 I J
theorem zq_X4_setCosts__32 (F : zz_F) (d N : Nat) : ∀ n : Nat, (∀ (l2 : Int32) (l3 : Int32) (l4 : Int32) (l5 : Int32) (I : Nat → Nat → Int32) (J : Nat → Nat → Int64) (r : Int32 × (Nat → Nat → Int32) × (Nat → Nat → Int64)), zl_X4_setCosts__32 N n 0 l2 l3 l4 l5 I J = some r → zz_run (d+1) 46 0 [some (.ref 41), some (.ref 32), some (.int (l2)), none, none, none] [] (zz_S F I J) none (zz_S F (r.2.1) (J))) ∧ (∀ (l2 : Int32) (l3 : Int32) (l4 : Int32) (l5 : Int32) (I : Nat → Nat → Int32) (J : Nat → Nat → Int64) (r : Int32 × (Nat → Nat → Int32) × (Nat → Nat → Int64)), zl_X4_setCosts__32 N n 2 l2 l3 l4 l5 I J = some r → zz_run (d+1) 46 2 [some (.ref 41), some (.ref 32), some (.int (l2)), some (.int (l3)), none, none] [] (zz_S F I J) none (zz_S F (r.2.1) (J))) ∧ (∀ (l2 : Int32) (l3 : Int32) (l4 : Int32) (l5 : Int32) (I : Nat → Nat → Int32) (J : Nat → Nat → Int64) (r : Int32 × (Nat → Nat → Int32) × (Nat → Nat → Int64)), zl_X4_setCosts__32 N n 22 l2 l3 l4 l5 I J = some r → zz_run (d+1) 46 22 [some (.ref 41), some (.ref 32), some (.int (l2)), some (.int (l3)), some (.int (l4)), some (.int (l5))] [] (zz_S F I J) none (zz_S F (r.2.1) (J))) := by
  intro n
  induction n with
  | zero => exact ⟨fun _ _ _ _ _ _ _ h => zz_no h, fun _ _ _ _ _ _ _ h => zz_no h, fun _ _ _ _ _ _ _ h => zz_no h⟩
  | succ n ih =>
    obtain ⟨ih0, ih2, ih22⟩ := ih
    refine ⟨?_, ?_, ?_⟩
    · intro l2 l3 l4 l5 I J r hr
      replace hr : zb_X4_setCosts__32_0 N (zl_X4_setCosts__32 N n) l2 l3 l4 l5 I J = some r := hr
      unfold zb_X4_setCosts__32_0 at hr
      refine zs_46_0 ?_
      repeat' first | refine And.intro rfl ?_ | refine And.intro (Or.inl rfl) ?_ | refine And.intro (Or.inr rfl) ?_ | refine And.intro (Nat.le_of_ble_eq_true rfl) ?_ | refine And.intro (And.intro rfl rfl) ?_ | exact rfl
      exact zz_wk [true, true, true, true, false, false] rfl (ih2 _ _ _ _ _ _ _ hr)
    · intro l2 l3 l4 l5 I J r hr
      replace hr : zb_X4_setCosts__32_2 N (zl_X4_setCosts__32 N n) l2 l3 l4 l5 I J = some r := hr
      unfold zb_X4_setCosts__32_2 at hr
      refine zs_46_2 ?_
      repeat' first | refine And.intro rfl ?_ | refine And.intro (Or.inl rfl) ?_ | refine And.intro (Or.inr rfl) ?_ | refine And.intro (Nat.le_of_ble_eq_true rfl) ?_ | refine And.intro (And.intro rfl rfl) ?_ | exact rfl
      refine And.intro (fun (h1 : 12 ≤ l3) => ?_) (fun (h1 : ¬ (12 ≤ l3)) => ?_)
      · rw [if_pos h1] at hr
        refine zs_46_82 ?_
        repeat' first | refine And.intro rfl ?_ | refine And.intro (Or.inl rfl) ?_ | refine And.intro (Or.inr rfl) ?_ | refine And.intro (Nat.le_of_ble_eq_true rfl) ?_ | refine And.intro (And.intro rfl rfl) ?_ | exact rfl
        cases hr
        repeat' first | refine And.intro rfl ?_ | refine And.intro (Or.inl rfl) ?_ | refine And.intro (Or.inr rfl) ?_ | refine And.intro (Nat.le_of_ble_eq_true rfl) ?_ | refine And.intro (And.intro rfl rfl) ?_ | exact rfl
      · rw [if_neg h1] at hr
        repeat' first | refine And.intro rfl ?_ | refine And.intro (Or.inl rfl) ?_ | refine And.intro (Or.inr rfl) ?_ | refine And.intro (Nat.le_of_ble_eq_true rfl) ?_ | refine And.intro (And.intro rfl rfl) ?_ | exact rfl
        refine Exists.intro _ (Exists.intro _ (And.intro (zr_of F I J d l3 1) ?_))
        repeat' first | refine And.intro rfl ?_ | refine And.intro (Or.inl rfl) ?_ | refine And.intro (Or.inr rfl) ?_ | refine And.intro (Nat.le_of_ble_eq_true rfl) ?_ | refine And.intro (And.intro rfl rfl) ?_ | exact rfl
        exact zz_wk [true, true, true, true, true, true] rfl (ih22 _ _ _ _ _ _ _ hr)
    · intro l2 l3 l4 l5 I J r hr
      replace hr : zb_X4_setCosts__32_22 N (zl_X4_setCosts__32 N n) l2 l3 l4 l5 I J = some r := hr
      unfold zb_X4_setCosts__32_22 at hr
      refine zs_46_22 ?_
      repeat' first | refine And.intro rfl ?_ | refine And.intro (Or.inl rfl) ?_ | refine And.intro (Or.inr rfl) ?_ | refine And.intro (Nat.le_of_ble_eq_true rfl) ?_ | refine And.intro (And.intro rfl rfl) ?_ | exact rfl
      refine And.intro (fun (h2 : 12 ≤ l5) => ?_) (fun (h2 : ¬ (12 ≤ l5)) => ?_)
      · rw [if_pos h2] at hr
        refine zs_46_57 ?_
        repeat' first | refine And.intro rfl ?_ | refine And.intro (Or.inl rfl) ?_ | refine And.intro (Or.inr rfl) ?_ | refine And.intro (Nat.le_of_ble_eq_true rfl) ?_ | refine And.intro (And.intro rfl rfl) ?_ | exact rfl
        have g1 : (¬ (l2 < 0)) → (¬ (12 ≤ l2)) → (¬ (l3 < 0)) → (l3 < 12) → (¬ (((l2 * 12) + l3) < 0 ∨ 144 ≤ ((l2 * 12) + l3).toNatClampNeg)) := zz_g hr
        replace hr := zz_gt hr
        refine Exists.intro _ (Exists.intro _ (And.intro (zr_X1_between_32 F I J d l2 l3 g1) ?_))
        repeat' first | refine And.intro rfl ?_ | refine And.intro (Or.inl rfl) ?_ | refine And.intro (Or.inr rfl) ?_ | refine And.intro (Nat.le_of_ble_eq_true rfl) ?_ | refine And.intro (And.intro rfl rfl) ?_ | exact rfl
        have g2 : ¬ ((144 + l3) < 0 ∨ 156 ≤ (144 + l3).toNatClampNeg) := zz_g hr
        replace hr := zz_gt hr
        refine And.intro (g2) ?_
        repeat' first | refine And.intro rfl ?_ | refine And.intro (Or.inl rfl) ?_ | refine And.intro (Or.inr rfl) ?_ | refine And.intro (Nat.le_of_ble_eq_true rfl) ?_ | refine And.intro (And.intro rfl rfl) ?_ | exact rfl
        exact zz_wk [true, true, true, true, false, false] rfl (ih2 _ _ _ _ _ _ _ hr)
      · rw [if_neg h2] at hr
        repeat' first | refine And.intro rfl ?_ | refine And.intro (Or.inl rfl) ?_ | refine And.intro (Or.inr rfl) ?_ | refine And.intro (Nat.le_of_ble_eq_true rfl) ?_ | refine And.intro (And.intro rfl rfl) ?_ | exact rfl
        have g3 : (¬ (l5 < 0)) → (¬ (12 ≤ l5)) → (¬ (l3 < 0)) → (l3 < 12) → (¬ (((l5 * 12) + l3) < 0 ∨ 144 ≤ ((l5 * 12) + l3).toNatClampNeg)) := zz_g hr
        replace hr := zz_gt hr
        refine Exists.intro _ (Exists.intro _ (And.intro (zr_X1_between_32 F I J d l5 l3 g3) ?_))
        repeat' first | refine And.intro rfl ?_ | refine And.intro (Or.inl rfl) ?_ | refine And.intro (Or.inr rfl) ?_ | refine And.intro (Nat.le_of_ble_eq_true rfl) ?_ | refine And.intro (And.intro rfl rfl) ?_ | exact rfl
        have g4 : ¬ (((l5 * 12) + l3) < 0 ∨ 156 ≤ ((l5 * 12) + l3).toNatClampNeg) := zz_g hr
        replace hr := zz_gt hr
        refine And.intro (g4) ?_
        repeat' first | refine And.intro rfl ?_ | refine And.intro (Or.inl rfl) ?_ | refine And.intro (Or.inr rfl) ?_ | refine And.intro (Nat.le_of_ble_eq_true rfl) ?_ | refine And.intro (And.intro rfl rfl) ?_ | exact rfl
        exact zz_wk [true, true, true, true, true, true] rfl (ih22 _ _ _ _ _ _ _ hr)
theorem zr_X4_setCosts__32 (F : zz_F) (I : Nat → Nat → Int32) (J : Nat → Nat → Int64) (d N : Nat) (l2 : Int32) (r : Int32 × (Nat → Nat → Int32) × (Nat → Nat → Int64)) (h : zf_X4_setCosts__32 N l2 I J = some r) : zz_run (d+1) 46 0 [some (.ref 41), some (.ref 32), some (.int (l2)), none, none, none] [] (zz_S F I J) none (zz_S F (r.2.1) (J)) := (zq_X4_setCosts__32 F d N N).1 l2 0 0 0 I J r h
def zb_X4_layPlay_0 (N : Nat) (rec : Nat → Int32 → Int32 → Int32 → Int32 → Int32 → Int32 → (Nat → Nat → Int32) → (Nat → Nat → Int64) → Option (Int32 × (Nat → Nat → Int32) × (Nat → Nat → Int64))) (l1 : Int32) (l2 : Int32) (l3 : Int32) (l4 : Int32) (l5 : Int32) (l6 : Int32) (I : Nat → Nat → Int32) (J : Nat → Nat → Int64) : Option (Int32 × (Nat → Nat → Int32) × (Nat → Nat → Int64)) := if ¬ l2 = 0 then (rec 38 0 0 (l1 &&& (zv_X9_scenesOf I l2)) 13 0 0 (zz_u I 43 13 12) J) else (rec 38 0 0 (l1 &&& (zv_X9_scenesOf I l2)) 0 0 0 (zz_u I 43 0 12) J)
def zb_X4_layPlay_38 (N : Nat) (rec : Nat → Int32 → Int32 → Int32 → Int32 → Int32 → Int32 → (Nat → Nat → Int32) → (Nat → Nat → Int64) → Option (Int32 × (Nat → Nat → Int32) × (Nat → Nat → Int64))) (l1 : Int32) (l2 : Int32) (l3 : Int32) (l4 : Int32) (l5 : Int32) (l6 : Int32) (I : Nat → Nat → Int32) (J : Nat → Nat → Int64) : Option (Int32 × (Nat → Nat → Int32) × (Nat → Nat → Int64)) := if 12 ≤ l6 then (some (l5, I, J)) else (if ¬ ((l3 >>> (l6 &&& 31)) &&& 1) = 1 then (rec 38 0 0 l3 l4 l5 (l6 + 1) I J) else (if ¬ ((l4 + (l5 + 1)) < 0 ∨ 26 ≤ (l4 + (l5 + 1)).toNatClampNeg) then (rec 38 0 0 l3 l4 (l5 + 1) (l6 + 1) (zz_u I 43 ((l4 + (l5 + 1)).toNatClampNeg) l6) J) else none))
def zl_X4_layPlay (N : Nat) : Nat → Nat → Int32 → Int32 → Int32 → Int32 → Int32 → Int32 → (Nat → Nat → Int32) → (Nat → Nat → Int64) → Option (Int32 × (Nat → Nat → Int32) × (Nat → Nat → Int64))
  | 0 => fun _ _ _ _ _ _ _ _ _ => none
  | n + 1 => fun pc l1 l2 l3 l4 l5 l6 I J => if pc = 0 then zb_X4_layPlay_0 N (zl_X4_layPlay N n) l1 l2 l3 l4 l5 l6 I J else (if pc = 38 then zb_X4_layPlay_38 N (zl_X4_layPlay N n) l1 l2 l3 l4 l5 l6 I J else none)
def zf_X4_layPlay (N : Nat) (l1 : Int32) (l2 : Int32) (I : Nat → Nat → Int32) (J : Nat → Nat → Int64) : Option (Int32 × (Nat → Nat → Int32) × (Nat → Nat → Int64)) := zl_X4_layPlay N N 0 l1 l2 0 0 0 0 I J
theorem zq_X4_layPlay (F : zz_F) (d N : Nat) : ∀ n : Nat, (∀ (l1 : Int32) (l2 : Int32) (l3 : Int32) (l4 : Int32) (l5 : Int32) (l6 : Int32) (I : Nat → Nat → Int32) (J : Nat → Nat → Int64) (r : Int32 × (Nat → Nat → Int32) × (Nat → Nat → Int64)), zl_X4_layPlay N n 0 l1 l2 l3 l4 l5 l6 I J = some r → zz_run (d+1) 48 0 [some (.ref 41), some (.int (l1)), some (.int (l2)), none, none, none, none] [] (zz_S F I J) (some (.int (r.1))) (zz_S F (r.2.1) (J))) ∧ (∀ (l1 : Int32) (l2 : Int32) (l3 : Int32) (l4 : Int32) (l5 : Int32) (l6 : Int32) (I : Nat → Nat → Int32) (J : Nat → Nat → Int64) (r : Int32 × (Nat → Nat → Int32) × (Nat → Nat → Int64)), zl_X4_layPlay N n 38 l1 l2 l3 l4 l5 l6 I J = some r → zz_run (d+1) 48 38 [some (.ref 41), none, none, some (.int (l3)), some (.int (l4)), some (.int (l5)), some (.int (l6))] [] (zz_S F I J) (some (.int (r.1))) (zz_S F (r.2.1) (J))) := by
  intro n
  induction n with
  | zero => exact ⟨fun _ _ _ _ _ _ _ _ _ h => zz_no h, fun _ _ _ _ _ _ _ _ _ h => zz_no h⟩
  | succ n ih =>
    obtain ⟨ih0, ih38⟩ := ih
    refine ⟨?_, ?_⟩
    · intro l1 l2 l3 l4 l5 l6 I J r hr
      replace hr : zb_X4_layPlay_0 N (zl_X4_layPlay N n) l1 l2 l3 l4 l5 l6 I J = some r := hr
      unfold zb_X4_layPlay_0 at hr
      refine zs_48_0 ?_
      repeat' first | refine And.intro rfl ?_ | refine And.intro (Or.inl rfl) ?_ | refine And.intro (Or.inr rfl) ?_ | refine And.intro (Nat.le_of_ble_eq_true rfl) ?_ | refine And.intro (And.intro rfl rfl) ?_ | exact rfl
      refine Exists.intro _ (Exists.intro _ (And.intro (zr_X9_scenesOf F I J d l2) ?_))
      repeat' first | refine And.intro rfl ?_ | refine And.intro (Or.inl rfl) ?_ | refine And.intro (Or.inr rfl) ?_ | refine And.intro (Nat.le_of_ble_eq_true rfl) ?_ | refine And.intro (And.intro rfl rfl) ?_ | exact rfl
      refine And.intro (fun (h1 : ¬ l2 = 0) => ?_) (fun (h1 : ¬ (¬ l2 = 0)) => ?_)
      · rw [if_pos h1] at hr
        refine zs_48_19 ?_
        repeat' first | refine And.intro rfl ?_ | refine And.intro (Or.inl rfl) ?_ | refine And.intro (Or.inr rfl) ?_ | refine And.intro (Nat.le_of_ble_eq_true rfl) ?_ | refine And.intro (And.intro rfl rfl) ?_ | exact rfl
        refine zs_48_21 ?_
        repeat' first | refine And.intro rfl ?_ | refine And.intro (Or.inl rfl) ?_ | refine And.intro (Or.inr rfl) ?_ | refine And.intro (Nat.le_of_ble_eq_true rfl) ?_ | refine And.intro (And.intro rfl rfl) ?_ | exact rfl
        refine And.intro (zz_vk (k := 13) rfl rfl) ?_
        repeat' first | refine And.intro rfl ?_ | refine And.intro (Or.inl rfl) ?_ | refine And.intro (Or.inr rfl) ?_ | refine And.intro (Nat.le_of_ble_eq_true rfl) ?_ | refine And.intro (And.intro rfl rfl) ?_ | exact rfl
        exact zz_wk [true, false, false, true, true, true, true] rfl (ih38 _ _ _ _ _ _ _ _ _ hr)
      · rw [if_neg h1] at hr
        repeat' first | refine And.intro rfl ?_ | refine And.intro (Or.inl rfl) ?_ | refine And.intro (Or.inr rfl) ?_ | refine And.intro (Nat.le_of_ble_eq_true rfl) ?_ | refine And.intro (And.intro rfl rfl) ?_ | exact rfl
        refine zs_48_21 ?_
        repeat' first | refine And.intro rfl ?_ | refine And.intro (Or.inl rfl) ?_ | refine And.intro (Or.inr rfl) ?_ | refine And.intro (Nat.le_of_ble_eq_true rfl) ?_ | refine And.intro (And.intro rfl rfl) ?_ | exact rfl
        refine And.intro (zz_vk (k := 0) rfl rfl) ?_
        repeat' first | refine And.intro rfl ?_ | refine And.intro (Or.inl rfl) ?_ | refine And.intro (Or.inr rfl) ?_ | refine And.intro (Nat.le_of_ble_eq_true rfl) ?_ | refine And.intro (And.intro rfl rfl) ?_ | exact rfl
        exact zz_wk [true, false, false, true, true, true, true] rfl (ih38 _ _ _ _ _ _ _ _ _ hr)
    · intro l1 l2 l3 l4 l5 l6 I J r hr
      replace hr : zb_X4_layPlay_38 N (zl_X4_layPlay N n) l1 l2 l3 l4 l5 l6 I J = some r := hr
      unfold zb_X4_layPlay_38 at hr
      refine zs_48_38 ?_
      repeat' first | refine And.intro rfl ?_ | refine And.intro (Or.inl rfl) ?_ | refine And.intro (Or.inr rfl) ?_ | refine And.intro (Nat.le_of_ble_eq_true rfl) ?_ | refine And.intro (And.intro rfl rfl) ?_ | exact rfl
      refine And.intro (fun (h2 : 12 ≤ l6) => ?_) (fun (h2 : ¬ (12 ≤ l6)) => ?_)
      · rw [if_pos h2] at hr
        refine zs_48_76 ?_
        repeat' first | refine And.intro rfl ?_ | refine And.intro (Or.inl rfl) ?_ | refine And.intro (Or.inr rfl) ?_ | refine And.intro (Nat.le_of_ble_eq_true rfl) ?_ | refine And.intro (And.intro rfl rfl) ?_ | exact rfl
        cases hr
        repeat' first | refine And.intro rfl ?_ | refine And.intro (Or.inl rfl) ?_ | refine And.intro (Or.inr rfl) ?_ | refine And.intro (Nat.le_of_ble_eq_true rfl) ?_ | refine And.intro (And.intro rfl rfl) ?_ | exact rfl
      · rw [if_neg h2] at hr
        repeat' first | refine And.intro rfl ?_ | refine And.intro (Or.inl rfl) ?_ | refine And.intro (Or.inr rfl) ?_ | refine And.intro (Nat.le_of_ble_eq_true rfl) ?_ | refine And.intro (And.intro rfl rfl) ?_ | exact rfl
        refine And.intro (fun (h3 : ¬ ((l3 >>> (l6 &&& 31)) &&& 1) = 1) => ?_) (fun (h3 : ¬ (¬ ((l3 >>> (l6 &&& 31)) &&& 1) = 1)) => ?_)
        · rw [if_pos h3] at hr
          refine zs_48_70 ?_
          repeat' first | refine And.intro rfl ?_ | refine And.intro (Or.inl rfl) ?_ | refine And.intro (Or.inr rfl) ?_ | refine And.intro (Nat.le_of_ble_eq_true rfl) ?_ | refine And.intro (And.intro rfl rfl) ?_ | exact rfl
          exact zz_wk [true, false, false, true, true, true, true] rfl (ih38 _ _ _ _ _ _ _ _ _ hr)
        · rw [if_neg h3] at hr
          repeat' first | refine And.intro rfl ?_ | refine And.intro (Or.inl rfl) ?_ | refine And.intro (Or.inr rfl) ?_ | refine And.intro (Nat.le_of_ble_eq_true rfl) ?_ | refine And.intro (And.intro rfl rfl) ?_ | exact rfl
          have g1 : ¬ ((l4 + (l5 + 1)) < 0 ∨ 26 ≤ (l4 + (l5 + 1)).toNatClampNeg) := zz_g hr
          replace hr := zz_gt hr
          refine And.intro (g1) ?_
          repeat' first | refine And.intro rfl ?_ | refine And.intro (Or.inl rfl) ?_ | refine And.intro (Or.inr rfl) ?_ | refine And.intro (Nat.le_of_ble_eq_true rfl) ?_ | refine And.intro (And.intro rfl rfl) ?_ | exact rfl
          refine zs_48_70 ?_
          repeat' first | refine And.intro rfl ?_ | refine And.intro (Or.inl rfl) ?_ | refine And.intro (Or.inr rfl) ?_ | refine And.intro (Nat.le_of_ble_eq_true rfl) ?_ | refine And.intro (And.intro rfl rfl) ?_ | exact rfl
          exact zz_wk [true, false, false, true, true, true, true] rfl (ih38 _ _ _ _ _ _ _ _ _ hr)
theorem zr_X4_layPlay (F : zz_F) (I : Nat → Nat → Int32) (J : Nat → Nat → Int64) (d N : Nat) (l1 : Int32) (l2 : Int32) (r : Int32 × (Nat → Nat → Int32) × (Nat → Nat → Int64)) (h : zf_X4_layPlay N l1 l2 I J = some r) : zz_run (d+1) 48 0 [some (.ref 41), some (.int (l1)), some (.int (l2)), none, none, none, none] [] (zz_S F I J) (some (.int (r.1))) (zz_S F (r.2.1) (J)) := (zq_X4_layPlay F d N N).1 l1 l2 0 0 0 0 I J r h
def zb_X4_fillBack_0 (N : Nat) (rec : Nat → Int32 → Int32 → Int32 → (Nat → Nat → Int32) → (Nat → Nat → Int64) → Option (Int32 × (Nat → Nat → Int32) × (Nat → Nat → Int64))) (l1 : Int32) (l2 : Int32) (l3 : Int32) (I : Nat → Nat → Int32) (J : Nat → Nat → Int64) : Option (Int32 × (Nat → Nat → Int32) × (Nat → Nat → Int64)) := rec 5 l1 (I 41 6) 0 I J
def zb_X4_fillBack_5 (N : Nat) (rec : Nat → Int32 → Int32 → Int32 → (Nat → Nat → Int32) → (Nat → Nat → Int64) → Option (Int32 × (Nat → Nat → Int32) × (Nat → Nat → Int64))) (l1 : Int32) (l2 : Int32) (l3 : Int32) (I : Nat → Nat → Int32) (J : Nat → Nat → Int64) : Option (Int32 × (Nat → Nat → Int32) × (Nat → Nat → Int64)) := if l2 < 0 then (some (zv_X4_valueAt I 0 0 0, I, J)) else (rec 14 l1 l2 (I 41 7) I J)
def zb_X4_fillBack_14 (N : Nat) (rec : Nat → Int32 → Int32 → Int32 → (Nat → Nat → Int32) → (Nat → Nat → Int64) → Option (Int32 × (Nat → Nat → Int32) × (Nat → Nat → Int64))) (l1 : Int32) (l2 : Int32) (l3 : Int32) (I : Nat → Nat → Int32) (J : Nat → Nat → Int64) : Option (Int32 × (Nat → Nat → Int32) × (Nat → Nat → Int64)) := if l3 < 0 then (rec 5 l1 (l2 + (-1)) 0 I J) else (rec 14 l1 l2 (l3 + (-1)) (zw_X4_put (zw_X4_put I l2 l3 0 (zv_X4_restFrom I l2 l3 0 l1)) l2 l3 1 (zv_X4_restFrom (zw_X4_put I l2 l3 0 (zv_X4_restFrom I l2 l3 0 l1)) l2 l3 1 l1)) J)
def zl_X4_fillBack (N : Nat) : Nat → Nat → Int32 → Int32 → Int32 → (Nat → Nat → Int32) → (Nat → Nat → Int64) → Option (Int32 × (Nat → Nat → Int32) × (Nat → Nat → Int64))
  | 0 => fun _ _ _ _ _ _ => none
  | n + 1 => fun pc l1 l2 l3 I J => if pc = 0 then zb_X4_fillBack_0 N (zl_X4_fillBack N n) l1 l2 l3 I J else (if pc = 5 then zb_X4_fillBack_5 N (zl_X4_fillBack N n) l1 l2 l3 I J else (if pc = 14 then zb_X4_fillBack_14 N (zl_X4_fillBack N n) l1 l2 l3 I J else none))
def zf_X4_fillBack (N : Nat) (l1 : Int32) (I : Nat → Nat → Int32) (J : Nat → Nat → Int64) : Option (Int32 × (Nat → Nat → Int32) × (Nat → Nat → Int64)) := zl_X4_fillBack N N 0 l1 0 0 I J
theorem zq_X4_fillBack (F : zz_F) (d N : Nat) : ∀ n : Nat, (∀ (l1 : Int32) (l2 : Int32) (l3 : Int32) (I : Nat → Nat → Int32) (J : Nat → Nat → Int64) (r : Int32 × (Nat → Nat → Int32) × (Nat → Nat → Int64)), zl_X4_fillBack N n 0 l1 l2 l3 I J = some r → zz_run (d+3) 57 0 [some (.ref 41), some (.int (l1)), none, none] [] (zz_S F I J) (some (.int (r.1))) (zz_S F (r.2.1) (J))) ∧ (∀ (l1 : Int32) (l2 : Int32) (l3 : Int32) (I : Nat → Nat → Int32) (J : Nat → Nat → Int64) (r : Int32 × (Nat → Nat → Int32) × (Nat → Nat → Int64)), zl_X4_fillBack N n 5 l1 l2 l3 I J = some r → zz_run (d+3) 57 5 [some (.ref 41), some (.int (l1)), some (.int (l2)), none] [] (zz_S F I J) (some (.int (r.1))) (zz_S F (r.2.1) (J))) ∧ (∀ (l1 : Int32) (l2 : Int32) (l3 : Int32) (I : Nat → Nat → Int32) (J : Nat → Nat → Int64) (r : Int32 × (Nat → Nat → Int32) × (Nat → Nat → Int64)), zl_X4_fillBack N n 14 l1 l2 l3 I J = some r → zz_run (d+3) 57 14 [some (.ref 41), some (.int (l1)), some (.int (l2)), some (.int (l3))] [] (zz_S F I J) (some (.int (r.1))) (zz_S F (r.2.1) (J))) := by
  intro n
  induction n with
  | zero => exact ⟨fun _ _ _ _ _ _ h => zz_no h, fun _ _ _ _ _ _ h => zz_no h, fun _ _ _ _ _ _ h => zz_no h⟩
  | succ n ih =>
    obtain ⟨ih0, ih5, ih14⟩ := ih
    refine ⟨?_, ?_, ?_⟩
    · intro l1 l2 l3 I J r hr
      replace hr : zb_X4_fillBack_0 N (zl_X4_fillBack N n) l1 l2 l3 I J = some r := hr
      unfold zb_X4_fillBack_0 at hr
      refine zs_57_0 ?_
      repeat' first | refine And.intro rfl ?_ | refine And.intro (Or.inl rfl) ?_ | refine And.intro (Or.inr rfl) ?_ | refine And.intro (Nat.le_of_ble_eq_true rfl) ?_ | refine And.intro (And.intro rfl rfl) ?_ | exact rfl
      exact zz_wk [true, true, true, false] rfl (ih5 _ _ _ _ _ _ hr)
    · intro l1 l2 l3 I J r hr
      replace hr : zb_X4_fillBack_5 N (zl_X4_fillBack N n) l1 l2 l3 I J = some r := hr
      unfold zb_X4_fillBack_5 at hr
      refine zs_57_5 ?_
      repeat' first | refine And.intro rfl ?_ | refine And.intro (Or.inl rfl) ?_ | refine And.intro (Or.inr rfl) ?_ | refine And.intro (Nat.le_of_ble_eq_true rfl) ?_ | refine And.intro (And.intro rfl rfl) ?_ | exact rfl
      refine And.intro (fun (h1 : l2 < 0) => ?_) (fun (h1 : ¬ (l2 < 0)) => ?_)
      · rw [if_pos h1] at hr
        refine zs_57_60 ?_
        repeat' first | refine And.intro rfl ?_ | refine And.intro (Or.inl rfl) ?_ | refine And.intro (Or.inr rfl) ?_ | refine And.intro (Nat.le_of_ble_eq_true rfl) ?_ | refine And.intro (And.intro rfl rfl) ?_ | exact rfl
        refine Exists.intro _ (Exists.intro _ (And.intro (zr_X4_valueAt F I J (d+2) 0 0 0) ?_))
        repeat' first | refine And.intro rfl ?_ | refine And.intro (Or.inl rfl) ?_ | refine And.intro (Or.inr rfl) ?_ | refine And.intro (Nat.le_of_ble_eq_true rfl) ?_ | refine And.intro (And.intro rfl rfl) ?_ | exact rfl
        cases hr
        repeat' first | refine And.intro rfl ?_ | refine And.intro (Or.inl rfl) ?_ | refine And.intro (Or.inr rfl) ?_ | refine And.intro (Nat.le_of_ble_eq_true rfl) ?_ | refine And.intro (And.intro rfl rfl) ?_ | exact rfl
      · rw [if_neg h1] at hr
        repeat' first | refine And.intro rfl ?_ | refine And.intro (Or.inl rfl) ?_ | refine And.intro (Or.inr rfl) ?_ | refine And.intro (Nat.le_of_ble_eq_true rfl) ?_ | refine And.intro (And.intro rfl rfl) ?_ | exact rfl
        exact zz_wk [true, true, true, true] rfl (ih14 _ _ _ _ _ _ hr)
    · intro l1 l2 l3 I J r hr
      replace hr : zb_X4_fillBack_14 N (zl_X4_fillBack N n) l1 l2 l3 I J = some r := hr
      unfold zb_X4_fillBack_14 at hr
      refine zs_57_14 ?_
      repeat' first | refine And.intro rfl ?_ | refine And.intro (Or.inl rfl) ?_ | refine And.intro (Or.inr rfl) ?_ | refine And.intro (Nat.le_of_ble_eq_true rfl) ?_ | refine And.intro (And.intro rfl rfl) ?_ | exact rfl
      refine And.intro (fun (h2 : l3 < 0) => ?_) (fun (h2 : ¬ (l3 < 0)) => ?_)
      · rw [if_pos h2] at hr
        refine zs_57_54 ?_
        repeat' first | refine And.intro rfl ?_ | refine And.intro (Or.inl rfl) ?_ | refine And.intro (Or.inr rfl) ?_ | refine And.intro (Nat.le_of_ble_eq_true rfl) ?_ | refine And.intro (And.intro rfl rfl) ?_ | exact rfl
        exact zz_wk [true, true, true, false] rfl (ih5 _ _ _ _ _ _ hr)
      · rw [if_neg h2] at hr
        repeat' first | refine And.intro rfl ?_ | refine And.intro (Or.inl rfl) ?_ | refine And.intro (Or.inr rfl) ?_ | refine And.intro (Nat.le_of_ble_eq_true rfl) ?_ | refine And.intro (And.intro rfl rfl) ?_ | exact rfl
        refine Exists.intro _ (Exists.intro _ (And.intro (zr_X4_restFrom F I J d l2 l3 0 l1) ?_))
        repeat' first | refine And.intro rfl ?_ | refine And.intro (Or.inl rfl) ?_ | refine And.intro (Or.inr rfl) ?_ | refine And.intro (Nat.le_of_ble_eq_true rfl) ?_ | refine And.intro (And.intro rfl rfl) ?_ | exact rfl
        refine Exists.intro _ (Exists.intro _ (And.intro (zr_X4_put F I J (d+2) l2 l3 0 (zv_X4_restFrom I l2 l3 0 l1)) ?_))
        repeat' first | refine And.intro rfl ?_ | refine And.intro (Or.inl rfl) ?_ | refine And.intro (Or.inr rfl) ?_ | refine And.intro (Nat.le_of_ble_eq_true rfl) ?_ | refine And.intro (And.intro rfl rfl) ?_ | exact rfl
        refine Exists.intro _ (Exists.intro _ (And.intro (zr_X4_restFrom F (zw_X4_put I l2 l3 0 (zv_X4_restFrom I l2 l3 0 l1)) J d l2 l3 1 l1) ?_))
        repeat' first | refine And.intro rfl ?_ | refine And.intro (Or.inl rfl) ?_ | refine And.intro (Or.inr rfl) ?_ | refine And.intro (Nat.le_of_ble_eq_true rfl) ?_ | refine And.intro (And.intro rfl rfl) ?_ | exact rfl
        refine Exists.intro _ (Exists.intro _ (And.intro (zr_X4_put F (zw_X4_put I l2 l3 0 (zv_X4_restFrom I l2 l3 0 l1)) J (d+2) l2 l3 1 (zv_X4_restFrom (zw_X4_put I l2 l3 0 (zv_X4_restFrom I l2 l3 0 l1)) l2 l3 1 l1)) ?_))
        repeat' first | refine And.intro rfl ?_ | refine And.intro (Or.inl rfl) ?_ | refine And.intro (Or.inr rfl) ?_ | refine And.intro (Nat.le_of_ble_eq_true rfl) ?_ | refine And.intro (And.intro rfl rfl) ?_ | exact rfl
        exact zz_wk [true, true, true, true] rfl (ih14 _ _ _ _ _ _ hr)
theorem zr_X4_fillBack (F : zz_F) (I : Nat → Nat → Int32) (J : Nat → Nat → Int64) (d N : Nat) (l1 : Int32) (r : Int32 × (Nat → Nat → Int32) × (Nat → Nat → Int64)) (h : zf_X4_fillBack N l1 I J = some r) : zz_run (d+3) 57 0 [some (.ref 41), some (.int (l1)), none, none] [] (zz_S F I J) (some (.int (r.1))) (zz_S F (r.2.1) (J)) := (zq_X4_fillBack F d N N).1 l1 0 0 I J r h
def zb_X4_shortest_0 (N : Nat) (rec : Nat → (Nat → Nat → Int32) → (Nat → Nat → Int64) → Option (Int32 × (Nat → Nat → Int32) × (Nat → Nat → Int64)))  (I : Nat → Nat → Int32) (J : Nat → Nat → Int64) : Option (Int32 × (Nat → Nat → Int32) × (Nat → Nat → Int64)) := (zf_X4_fillBack N 0 I J).bind fun r1 => some (r1.1, r1.2.1, J)
def zl_X4_shortest (N : Nat) : Nat → Nat → (Nat → Nat → Int32) → (Nat → Nat → Int64) → Option (Int32 × (Nat → Nat → Int32) × (Nat → Nat → Int64))
  | 0 => fun _ _ _ => none
  | n + 1 => fun pc  I J => if pc = 0 then zb_X4_shortest_0 N (zl_X4_shortest N n)  I J else none
def zf_X4_shortest (N : Nat)  (I : Nat → Nat → Int32) (J : Nat → Nat → Int64) : Option (Int32 × (Nat → Nat → Int32) × (Nat → Nat → Int64)) := zl_X4_shortest N N 0  I J
theorem zq_X4_shortest (F : zz_F) (d N : Nat) : ∀ n : Nat, (∀  (I : Nat → Nat → Int32) (J : Nat → Nat → Int64) (r : Int32 × (Nat → Nat → Int32) × (Nat → Nat → Int64)), zl_X4_shortest N n 0  I J = some r → zz_run (d+4) 58 0 [some (.ref 41)] [] (zz_S F I J) (some (.int (r.1))) (zz_S F (r.2.1) (J))) := by
  intro n
  induction n with
  | zero => exact fun _ _ _ h => zz_no h
  | succ n ih =>
    have ih0 := ih
    skip
    · intro  I J r hr
      replace hr : zb_X4_shortest_0 N (zl_X4_shortest N n)  I J = some r := hr
      unfold zb_X4_shortest_0 at hr
      refine zs_58_0 ?_
      repeat' first | refine And.intro rfl ?_ | refine And.intro (Or.inl rfl) ?_ | refine And.intro (Or.inr rfl) ?_ | refine And.intro (Nat.le_of_ble_eq_true rfl) ?_ | refine And.intro (And.intro rfl rfl) ?_ | exact rfl
      obtain ⟨r1, cr1, hr⟩ := Option.bind_eq_some_iff.mp hr
      refine Exists.intro _ (Exists.intro _ (And.intro (zr_X4_fillBack F I J d N 0 r1 cr1) ?_))
      repeat' first | refine And.intro rfl ?_ | refine And.intro (Or.inl rfl) ?_ | refine And.intro (Or.inr rfl) ?_ | refine And.intro (Nat.le_of_ble_eq_true rfl) ?_ | refine And.intro (And.intro rfl rfl) ?_ | exact rfl
      cases hr
      repeat' first | refine And.intro rfl ?_ | refine And.intro (Or.inl rfl) ?_ | refine And.intro (Or.inr rfl) ?_ | refine And.intro (Nat.le_of_ble_eq_true rfl) ?_ | refine And.intro (And.intro rfl rfl) ?_ | exact rfl
theorem zr_X4_shortest (F : zz_F) (I : Nat → Nat → Int32) (J : Nat → Nat → Int64) (d N : Nat)  (r : Int32 × (Nat → Nat → Int32) × (Nat → Nat → Int64)) (h : zf_X4_shortest N  I J = some r) : zz_run (d+4) 58 0 [some (.ref 41)] [] (zz_S F I J) (some (.int (r.1))) (zz_S F (r.2.1) (J)) := (zq_X4_shortest F d N N)  I J r h
def zb_X4_longest_0 (N : Nat) (rec : Nat → (Nat → Nat → Int32) → (Nat → Nat → Int64) → Option (Int32 × (Nat → Nat → Int32) × (Nat → Nat → Int64)))  (I : Nat → Nat → Int32) (J : Nat → Nat → Int64) : Option (Int32 × (Nat → Nat → Int32) × (Nat → Nat → Int64)) := (zf_X4_fillBack N 1 I J).bind fun r1 => some (r1.1, r1.2.1, J)
def zl_X4_longest (N : Nat) : Nat → Nat → (Nat → Nat → Int32) → (Nat → Nat → Int64) → Option (Int32 × (Nat → Nat → Int32) × (Nat → Nat → Int64))
  | 0 => fun _ _ _ => none
  | n + 1 => fun pc  I J => if pc = 0 then zb_X4_longest_0 N (zl_X4_longest N n)  I J else none
def zf_X4_longest (N : Nat)  (I : Nat → Nat → Int32) (J : Nat → Nat → Int64) : Option (Int32 × (Nat → Nat → Int32) × (Nat → Nat → Int64)) := zl_X4_longest N N 0  I J
theorem zq_X4_longest (F : zz_F) (d N : Nat) : ∀ n : Nat, (∀  (I : Nat → Nat → Int32) (J : Nat → Nat → Int64) (r : Int32 × (Nat → Nat → Int32) × (Nat → Nat → Int64)), zl_X4_longest N n 0  I J = some r → zz_run (d+4) 59 0 [some (.ref 41)] [] (zz_S F I J) (some (.int (r.1))) (zz_S F (r.2.1) (J))) := by
  intro n
  induction n with
  | zero => exact fun _ _ _ h => zz_no h
  | succ n ih =>
    have ih0 := ih
    skip
    · intro  I J r hr
      replace hr : zb_X4_longest_0 N (zl_X4_longest N n)  I J = some r := hr
      unfold zb_X4_longest_0 at hr
      refine zs_59_0 ?_
      repeat' first | refine And.intro rfl ?_ | refine And.intro (Or.inl rfl) ?_ | refine And.intro (Or.inr rfl) ?_ | refine And.intro (Nat.le_of_ble_eq_true rfl) ?_ | refine And.intro (And.intro rfl rfl) ?_ | exact rfl
      obtain ⟨r1, cr1, hr⟩ := Option.bind_eq_some_iff.mp hr
      refine Exists.intro _ (Exists.intro _ (And.intro (zr_X4_fillBack F I J d N 1 r1 cr1) ?_))
      repeat' first | refine And.intro rfl ?_ | refine And.intro (Or.inl rfl) ?_ | refine And.intro (Or.inr rfl) ?_ | refine And.intro (Nat.le_of_ble_eq_true rfl) ?_ | refine And.intro (And.intro rfl rfl) ?_ | exact rfl
      cases hr
      repeat' first | refine And.intro rfl ?_ | refine And.intro (Or.inl rfl) ?_ | refine And.intro (Or.inr rfl) ?_ | refine And.intro (Nat.le_of_ble_eq_true rfl) ?_ | refine And.intro (And.intro rfl rfl) ?_ | exact rfl
theorem zr_X4_longest (F : zz_F) (I : Nat → Nat → Int32) (J : Nat → Nat → Int64) (d N : Nat)  (r : Int32 × (Nat → Nat → Int32) × (Nat → Nat → Int64)) (h : zf_X4_longest N  I J = some r) : zz_run (d+4) 59 0 [some (.ref 41)] [] (zz_S F I J) (some (.int (r.1))) (zz_S F (r.2.1) (J)) := (zq_X4_longest F d N N)  I J r h
