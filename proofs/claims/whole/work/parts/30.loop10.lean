/-! methods with loops, printed by wip/whole/loop.py -/
def zb_X1_refresh__5_0 (N : Nat) (rec : Nat → Int32 → Int32 → Int32 → Int32 → (Nat → Nat → Int32) → (Nat → Nat → Int64) → Option (Int32 × (Nat → Nat → Int32) × (Nat → Nat → Int64))) (l2 : Int32) (l3 : Int32) (l4 : Int32) (l5 : Int32) (I : Nat → Nat → Int32) (J : Nat → Nat → Int64) : Option (Int32 × (Nat → Nat → Int32) × (Nat → Nat → Int64)) := if (I 28 4) = 0 then (rec 20 (zz_min (I 5 2) 12) 0 0 0 I J) else (some (0, I, J))
def zb_X1_refresh__5_20 (N : Nat) (rec : Nat → Int32 → Int32 → Int32 → Int32 → (Nat → Nat → Int32) → (Nat → Nat → Int64) → Option (Int32 × (Nat → Nat → Int32) × (Nat → Nat → Int64))) (l2 : Int32) (l3 : Int32) (l4 : Int32) (l5 : Int32) (I : Nat → Nat → Int32) (J : Nat → Nat → Int64) : Option (Int32 × (Nat → Nat → Int32) × (Nat → Nat → Int64)) := if l2 ≤ l3 then (some (0, zz_u I 28 4 1, J)) else (rec 28 l2 l3 0 0 I J)
def zb_X1_refresh__5_28 (N : Nat) (rec : Nat → Int32 → Int32 → Int32 → Int32 → (Nat → Nat → Int32) → (Nat → Nat → Int64) → Option (Int32 × (Nat → Nat → Int32) × (Nat → Nat → Int64))) (l2 : Int32) (l3 : Int32) (l4 : Int32) (l5 : Int32) (I : Nat → Nat → Int32) (J : Nat → Nat → Int64) : Option (Int32 × (Nat → Nat → Int32) × (Nat → Nat → Int64)) := if l2 ≤ l4 then (rec 20 l2 (l3 + 1) 0 0 I J) else ((zf_X1_worth__5 N l3 l4 I J).bind fun r1 => if ¬ (((l3 * 12) + l4) < 0 ∨ 144 ≤ ((l3 * 12) + l4).toNatClampNeg) then (rec 28 l2 l3 (l4 + 1) 0 (zz_u r1.2.1 31 (((l3 * 12) + l4).toNatClampNeg) (zz_max 0 (zz_min 99 r1.1))) J) else none)
def zl_X1_refresh__5 (N : Nat) : Nat → Nat → Int32 → Int32 → Int32 → Int32 → (Nat → Nat → Int32) → (Nat → Nat → Int64) → Option (Int32 × (Nat → Nat → Int32) × (Nat → Nat → Int64))
  | 0 => fun _ _ _ _ _ _ _ => none
  | n + 1 => fun pc l2 l3 l4 l5 I J => if pc = 0 then zb_X1_refresh__5_0 N (zl_X1_refresh__5 N n) l2 l3 l4 l5 I J else (if pc = 20 then zb_X1_refresh__5_20 N (zl_X1_refresh__5 N n) l2 l3 l4 l5 I J else (if pc = 28 then zb_X1_refresh__5_28 N (zl_X1_refresh__5 N n) l2 l3 l4 l5 I J else none))
def zf_X1_refresh__5 (N : Nat)  (I : Nat → Nat → Int32) (J : Nat → Nat → Int64) : Option (Int32 × (Nat → Nat → Int32) × (Nat → Nat → Int64)) := zl_X1_refresh__5 N N 0 0 0 0 0 I J
theorem zq_X1_refresh__5 (F : zz_F) (d N : Nat) : ∀ n : Nat, (∀ (l2 : Int32) (l3 : Int32) (l4 : Int32) (l5 : Int32) (I : Nat → Nat → Int32) (J : Nat → Nat → Int64) (r : Int32 × (Nat → Nat → Int32) × (Nat → Nat → Int64)), zl_X1_refresh__5 N n 0 l2 l3 l4 l5 I J = some r → zz_run (d+3) 9 0 [some (.ref 28), some (.ref 5), none, none, none, none] [] (zz_S F I J) none (zz_S F (r.2.1) (J))) ∧ (∀ (l2 : Int32) (l3 : Int32) (l4 : Int32) (l5 : Int32) (I : Nat → Nat → Int32) (J : Nat → Nat → Int64) (r : Int32 × (Nat → Nat → Int32) × (Nat → Nat → Int64)), zl_X1_refresh__5 N n 20 l2 l3 l4 l5 I J = some r → zz_run (d+3) 9 20 [some (.ref 28), some (.ref 5), some (.int (l2)), some (.int (l3)), none, none] [] (zz_S F I J) none (zz_S F (r.2.1) (J))) ∧ (∀ (l2 : Int32) (l3 : Int32) (l4 : Int32) (l5 : Int32) (I : Nat → Nat → Int32) (J : Nat → Nat → Int64) (r : Int32 × (Nat → Nat → Int32) × (Nat → Nat → Int64)), zl_X1_refresh__5 N n 28 l2 l3 l4 l5 I J = some r → zz_run (d+3) 9 28 [some (.ref 28), some (.ref 5), some (.int (l2)), some (.int (l3)), some (.int (l4)), none] [] (zz_S F I J) none (zz_S F (r.2.1) (J))) := by
  intro n
  induction n with
  | zero => exact ⟨fun _ _ _ _ _ _ _ h => zz_no h, fun _ _ _ _ _ _ _ h => zz_no h, fun _ _ _ _ _ _ _ h => zz_no h⟩
  | succ n ih =>
    obtain ⟨ih0, ih20, ih28⟩ := ih
    refine ⟨?_, ?_, ?_⟩
    · intro l2 l3 l4 l5 I J r hr
      replace hr : zb_X1_refresh__5_0 N (zl_X1_refresh__5 N n) l2 l3 l4 l5 I J = some r := hr
      unfold zb_X1_refresh__5_0 at hr
      refine zs_9_0 ?_
      repeat' first | refine And.intro rfl ?_ | refine And.intro (Or.inl rfl) ?_ | refine And.intro (Or.inr rfl) ?_ | refine And.intro (Nat.le_of_ble_eq_true rfl) ?_ | refine And.intro (And.intro rfl rfl) ?_ | exact rfl
      refine And.intro (fun (h1 : (I 28 4) = 0) => ?_) (fun (h1 : ¬ ((I 28 4) = 0)) => ?_)
      · rw [if_pos h1] at hr
        refine zs_9_8 ?_
        repeat' first | refine And.intro rfl ?_ | refine And.intro (Or.inl rfl) ?_ | refine And.intro (Or.inr rfl) ?_ | refine And.intro (Nat.le_of_ble_eq_true rfl) ?_ | refine And.intro (And.intro rfl rfl) ?_ | exact rfl
        refine Exists.intro _ (Exists.intro _ (And.intro (zr_min F I J (d+2) (I 5 2) 12) ?_))
        repeat' first | refine And.intro rfl ?_ | refine And.intro (Or.inl rfl) ?_ | refine And.intro (Or.inr rfl) ?_ | refine And.intro (Nat.le_of_ble_eq_true rfl) ?_ | refine And.intro (And.intro rfl rfl) ?_ | exact rfl
        exact zz_wk [true, true, true, true, false, false] rfl (ih20 _ _ _ _ _ _ _ hr)
      · rw [if_neg h1] at hr
        repeat' first | refine And.intro rfl ?_ | refine And.intro (Or.inl rfl) ?_ | refine And.intro (Or.inr rfl) ?_ | refine And.intro (Nat.le_of_ble_eq_true rfl) ?_ | refine And.intro (And.intro rfl rfl) ?_ | exact rfl
        cases hr
        repeat' first | refine And.intro rfl ?_ | refine And.intro (Or.inl rfl) ?_ | refine And.intro (Or.inr rfl) ?_ | refine And.intro (Nat.le_of_ble_eq_true rfl) ?_ | refine And.intro (And.intro rfl rfl) ?_ | exact rfl
    · intro l2 l3 l4 l5 I J r hr
      replace hr : zb_X1_refresh__5_20 N (zl_X1_refresh__5 N n) l2 l3 l4 l5 I J = some r := hr
      unfold zb_X1_refresh__5_20 at hr
      refine zs_9_20 ?_
      repeat' first | refine And.intro rfl ?_ | refine And.intro (Or.inl rfl) ?_ | refine And.intro (Or.inr rfl) ?_ | refine And.intro (Nat.le_of_ble_eq_true rfl) ?_ | refine And.intro (And.intro rfl rfl) ?_ | exact rfl
      refine And.intro (fun (h2 : l2 ≤ l3) => ?_) (fun (h2 : ¬ (l2 ≤ l3)) => ?_)
      · rw [if_pos h2] at hr
        refine zs_9_79 ?_
        repeat' first | refine And.intro rfl ?_ | refine And.intro (Or.inl rfl) ?_ | refine And.intro (Or.inr rfl) ?_ | refine And.intro (Nat.le_of_ble_eq_true rfl) ?_ | refine And.intro (And.intro rfl rfl) ?_ | exact rfl
        cases hr
        repeat' first | refine And.intro rfl ?_ | refine And.intro (Or.inl rfl) ?_ | refine And.intro (Or.inr rfl) ?_ | refine And.intro (Nat.le_of_ble_eq_true rfl) ?_ | refine And.intro (And.intro rfl rfl) ?_ | exact rfl
      · rw [if_neg h2] at hr
        repeat' first | refine And.intro rfl ?_ | refine And.intro (Or.inl rfl) ?_ | refine And.intro (Or.inr rfl) ?_ | refine And.intro (Nat.le_of_ble_eq_true rfl) ?_ | refine And.intro (And.intro rfl rfl) ?_ | exact rfl
        exact zz_wk [true, true, true, true, true, false] rfl (ih28 _ _ _ _ _ _ _ hr)
    · intro l2 l3 l4 l5 I J r hr
      replace hr : zb_X1_refresh__5_28 N (zl_X1_refresh__5 N n) l2 l3 l4 l5 I J = some r := hr
      unfold zb_X1_refresh__5_28 at hr
      refine zs_9_28 ?_
      repeat' first | refine And.intro rfl ?_ | refine And.intro (Or.inl rfl) ?_ | refine And.intro (Or.inr rfl) ?_ | refine And.intro (Nat.le_of_ble_eq_true rfl) ?_ | refine And.intro (And.intro rfl rfl) ?_ | exact rfl
      refine And.intro (fun (h3 : l2 ≤ l4) => ?_) (fun (h3 : ¬ (l2 ≤ l4)) => ?_)
      · rw [if_pos h3] at hr
        refine zs_9_73 ?_
        repeat' first | refine And.intro rfl ?_ | refine And.intro (Or.inl rfl) ?_ | refine And.intro (Or.inr rfl) ?_ | refine And.intro (Nat.le_of_ble_eq_true rfl) ?_ | refine And.intro (And.intro rfl rfl) ?_ | exact rfl
        exact zz_wk [true, true, true, true, false, false] rfl (ih20 _ _ _ _ _ _ _ hr)
      · rw [if_neg h3] at hr
        repeat' first | refine And.intro rfl ?_ | refine And.intro (Or.inl rfl) ?_ | refine And.intro (Or.inr rfl) ?_ | refine And.intro (Nat.le_of_ble_eq_true rfl) ?_ | refine And.intro (And.intro rfl rfl) ?_ | exact rfl
        obtain ⟨r1, cr1, hr⟩ := Option.bind_eq_some_iff.mp hr
        refine Exists.intro _ (Exists.intro _ (And.intro (zr_X1_worth__5 F I J d N l3 l4 r1 cr1) ?_))
        repeat' first | refine And.intro rfl ?_ | refine And.intro (Or.inl rfl) ?_ | refine And.intro (Or.inr rfl) ?_ | refine And.intro (Nat.le_of_ble_eq_true rfl) ?_ | refine And.intro (And.intro rfl rfl) ?_ | exact rfl
        refine Exists.intro _ (Exists.intro _ (And.intro (zr_min F r1.2.1 J (d+2) 99 r1.1) ?_))
        repeat' first | refine And.intro rfl ?_ | refine And.intro (Or.inl rfl) ?_ | refine And.intro (Or.inr rfl) ?_ | refine And.intro (Nat.le_of_ble_eq_true rfl) ?_ | refine And.intro (And.intro rfl rfl) ?_ | exact rfl
        refine Exists.intro _ (Exists.intro _ (And.intro (zr_max F r1.2.1 J (d+2) 0 (zz_min 99 r1.1)) ?_))
        repeat' first | refine And.intro rfl ?_ | refine And.intro (Or.inl rfl) ?_ | refine And.intro (Or.inr rfl) ?_ | refine And.intro (Nat.le_of_ble_eq_true rfl) ?_ | refine And.intro (And.intro rfl rfl) ?_ | exact rfl
        have g2 : ¬ (((l3 * 12) + l4) < 0 ∨ 144 ≤ ((l3 * 12) + l4).toNatClampNeg) := zz_g hr
        replace hr := zz_gt hr
        refine And.intro (g2) ?_
        repeat' first | refine And.intro rfl ?_ | refine And.intro (Or.inl rfl) ?_ | refine And.intro (Or.inr rfl) ?_ | refine And.intro (Nat.le_of_ble_eq_true rfl) ?_ | refine And.intro (And.intro rfl rfl) ?_ | exact rfl
        exact zz_wk [true, true, true, true, true, false] rfl (ih28 _ _ _ _ _ _ _ hr)
theorem zr_X1_refresh__5 (F : zz_F) (I : Nat → Nat → Int32) (J : Nat → Nat → Int64) (d N : Nat)  (r : Int32 × (Nat → Nat → Int32) × (Nat → Nat → Int64)) (h : zf_X1_refresh__5 N  I J = some r) : zz_run (d+3) 9 0 [some (.ref 28), some (.ref 5), none, none, none, none] [] (zz_S F I J) none (zz_S F (r.2.1) (J)) := (zq_X1_refresh__5 F d N N).1 0 0 0 0 I J r h
def zb_X1_refresh_32__5_0 (N : Nat) (rec : Nat → Int32 → Int32 → Int32 → Int32 → (Nat → Nat → Int32) → (Nat → Nat → Int64) → Option (Int32 × (Nat → Nat → Int32) × (Nat → Nat → Int64))) (l2 : Int32) (l3 : Int32) (l4 : Int32) (l5 : Int32) (I : Nat → Nat → Int32) (J : Nat → Nat → Int64) : Option (Int32 × (Nat → Nat → Int32) × (Nat → Nat → Int64)) := if (I 32 4) = 0 then (rec 20 (zz_min (I 5 2) 12) 0 0 0 I J) else (some (0, I, J))
def zb_X1_refresh_32__5_20 (N : Nat) (rec : Nat → Int32 → Int32 → Int32 → Int32 → (Nat → Nat → Int32) → (Nat → Nat → Int64) → Option (Int32 × (Nat → Nat → Int32) × (Nat → Nat → Int64))) (l2 : Int32) (l3 : Int32) (l4 : Int32) (l5 : Int32) (I : Nat → Nat → Int32) (J : Nat → Nat → Int64) : Option (Int32 × (Nat → Nat → Int32) × (Nat → Nat → Int64)) := if l2 ≤ l3 then (some (0, zz_u I 32 4 1, J)) else (rec 28 l2 l3 0 0 I J)
def zb_X1_refresh_32__5_28 (N : Nat) (rec : Nat → Int32 → Int32 → Int32 → Int32 → (Nat → Nat → Int32) → (Nat → Nat → Int64) → Option (Int32 × (Nat → Nat → Int32) × (Nat → Nat → Int64))) (l2 : Int32) (l3 : Int32) (l4 : Int32) (l5 : Int32) (I : Nat → Nat → Int32) (J : Nat → Nat → Int64) : Option (Int32 × (Nat → Nat → Int32) × (Nat → Nat → Int64)) := if l2 ≤ l4 then (rec 20 l2 (l3 + 1) 0 0 I J) else ((zf_X1_worth_32__5 N l3 l4 I J).bind fun r1 => if ¬ (((l3 * 12) + l4) < 0 ∨ 144 ≤ ((l3 * 12) + l4).toNatClampNeg) then (rec 28 l2 l3 (l4 + 1) 0 (zz_u r1.2.1 35 (((l3 * 12) + l4).toNatClampNeg) (zz_max 0 (zz_min 99 r1.1))) J) else none)
def zl_X1_refresh_32__5 (N : Nat) : Nat → Nat → Int32 → Int32 → Int32 → Int32 → (Nat → Nat → Int32) → (Nat → Nat → Int64) → Option (Int32 × (Nat → Nat → Int32) × (Nat → Nat → Int64))
  | 0 => fun _ _ _ _ _ _ _ => none
  | n + 1 => fun pc l2 l3 l4 l5 I J => if pc = 0 then zb_X1_refresh_32__5_0 N (zl_X1_refresh_32__5 N n) l2 l3 l4 l5 I J else (if pc = 20 then zb_X1_refresh_32__5_20 N (zl_X1_refresh_32__5 N n) l2 l3 l4 l5 I J else (if pc = 28 then zb_X1_refresh_32__5_28 N (zl_X1_refresh_32__5 N n) l2 l3 l4 l5 I J else none))
def zf_X1_refresh_32__5 (N : Nat)  (I : Nat → Nat → Int32) (J : Nat → Nat → Int64) : Option (Int32 × (Nat → Nat → Int32) × (Nat → Nat → Int64)) := zl_X1_refresh_32__5 N N 0 0 0 0 0 I J
theorem zq_X1_refresh_32__5 (F : zz_F) (d N : Nat) : ∀ n : Nat, (∀ (l2 : Int32) (l3 : Int32) (l4 : Int32) (l5 : Int32) (I : Nat → Nat → Int32) (J : Nat → Nat → Int64) (r : Int32 × (Nat → Nat → Int32) × (Nat → Nat → Int64)), zl_X1_refresh_32__5 N n 0 l2 l3 l4 l5 I J = some r → zz_run (d+3) 9 0 [some (.ref 32), some (.ref 5), none, none, none, none] [] (zz_S F I J) none (zz_S F (r.2.1) (J))) ∧ (∀ (l2 : Int32) (l3 : Int32) (l4 : Int32) (l5 : Int32) (I : Nat → Nat → Int32) (J : Nat → Nat → Int64) (r : Int32 × (Nat → Nat → Int32) × (Nat → Nat → Int64)), zl_X1_refresh_32__5 N n 20 l2 l3 l4 l5 I J = some r → zz_run (d+3) 9 20 [some (.ref 32), some (.ref 5), some (.int (l2)), some (.int (l3)), none, none] [] (zz_S F I J) none (zz_S F (r.2.1) (J))) ∧ (∀ (l2 : Int32) (l3 : Int32) (l4 : Int32) (l5 : Int32) (I : Nat → Nat → Int32) (J : Nat → Nat → Int64) (r : Int32 × (Nat → Nat → Int32) × (Nat → Nat → Int64)), zl_X1_refresh_32__5 N n 28 l2 l3 l4 l5 I J = some r → zz_run (d+3) 9 28 [some (.ref 32), some (.ref 5), some (.int (l2)), some (.int (l3)), some (.int (l4)), none] [] (zz_S F I J) none (zz_S F (r.2.1) (J))) := by
  intro n
  induction n with
  | zero => exact ⟨fun _ _ _ _ _ _ _ h => zz_no h, fun _ _ _ _ _ _ _ h => zz_no h, fun _ _ _ _ _ _ _ h => zz_no h⟩
  | succ n ih =>
    obtain ⟨ih0, ih20, ih28⟩ := ih
    refine ⟨?_, ?_, ?_⟩
    · intro l2 l3 l4 l5 I J r hr
      replace hr : zb_X1_refresh_32__5_0 N (zl_X1_refresh_32__5 N n) l2 l3 l4 l5 I J = some r := hr
      unfold zb_X1_refresh_32__5_0 at hr
      refine zs_9_0 ?_
      repeat' first | refine And.intro rfl ?_ | refine And.intro (Or.inl rfl) ?_ | refine And.intro (Or.inr rfl) ?_ | refine And.intro (Nat.le_of_ble_eq_true rfl) ?_ | refine And.intro (And.intro rfl rfl) ?_ | exact rfl
      refine And.intro (fun (h1 : (I 32 4) = 0) => ?_) (fun (h1 : ¬ ((I 32 4) = 0)) => ?_)
      · rw [if_pos h1] at hr
        refine zs_9_8 ?_
        repeat' first | refine And.intro rfl ?_ | refine And.intro (Or.inl rfl) ?_ | refine And.intro (Or.inr rfl) ?_ | refine And.intro (Nat.le_of_ble_eq_true rfl) ?_ | refine And.intro (And.intro rfl rfl) ?_ | exact rfl
        refine Exists.intro _ (Exists.intro _ (And.intro (zr_min F I J (d+2) (I 5 2) 12) ?_))
        repeat' first | refine And.intro rfl ?_ | refine And.intro (Or.inl rfl) ?_ | refine And.intro (Or.inr rfl) ?_ | refine And.intro (Nat.le_of_ble_eq_true rfl) ?_ | refine And.intro (And.intro rfl rfl) ?_ | exact rfl
        exact zz_wk [true, true, true, true, false, false] rfl (ih20 _ _ _ _ _ _ _ hr)
      · rw [if_neg h1] at hr
        repeat' first | refine And.intro rfl ?_ | refine And.intro (Or.inl rfl) ?_ | refine And.intro (Or.inr rfl) ?_ | refine And.intro (Nat.le_of_ble_eq_true rfl) ?_ | refine And.intro (And.intro rfl rfl) ?_ | exact rfl
        cases hr
        repeat' first | refine And.intro rfl ?_ | refine And.intro (Or.inl rfl) ?_ | refine And.intro (Or.inr rfl) ?_ | refine And.intro (Nat.le_of_ble_eq_true rfl) ?_ | refine And.intro (And.intro rfl rfl) ?_ | exact rfl
    · intro l2 l3 l4 l5 I J r hr
      replace hr : zb_X1_refresh_32__5_20 N (zl_X1_refresh_32__5 N n) l2 l3 l4 l5 I J = some r := hr
      unfold zb_X1_refresh_32__5_20 at hr
      refine zs_9_20 ?_
      repeat' first | refine And.intro rfl ?_ | refine And.intro (Or.inl rfl) ?_ | refine And.intro (Or.inr rfl) ?_ | refine And.intro (Nat.le_of_ble_eq_true rfl) ?_ | refine And.intro (And.intro rfl rfl) ?_ | exact rfl
      refine And.intro (fun (h2 : l2 ≤ l3) => ?_) (fun (h2 : ¬ (l2 ≤ l3)) => ?_)
      · rw [if_pos h2] at hr
        refine zs_9_79 ?_
        repeat' first | refine And.intro rfl ?_ | refine And.intro (Or.inl rfl) ?_ | refine And.intro (Or.inr rfl) ?_ | refine And.intro (Nat.le_of_ble_eq_true rfl) ?_ | refine And.intro (And.intro rfl rfl) ?_ | exact rfl
        cases hr
        repeat' first | refine And.intro rfl ?_ | refine And.intro (Or.inl rfl) ?_ | refine And.intro (Or.inr rfl) ?_ | refine And.intro (Nat.le_of_ble_eq_true rfl) ?_ | refine And.intro (And.intro rfl rfl) ?_ | exact rfl
      · rw [if_neg h2] at hr
        repeat' first | refine And.intro rfl ?_ | refine And.intro (Or.inl rfl) ?_ | refine And.intro (Or.inr rfl) ?_ | refine And.intro (Nat.le_of_ble_eq_true rfl) ?_ | refine And.intro (And.intro rfl rfl) ?_ | exact rfl
        exact zz_wk [true, true, true, true, true, false] rfl (ih28 _ _ _ _ _ _ _ hr)
    · intro l2 l3 l4 l5 I J r hr
      replace hr : zb_X1_refresh_32__5_28 N (zl_X1_refresh_32__5 N n) l2 l3 l4 l5 I J = some r := hr
      unfold zb_X1_refresh_32__5_28 at hr
      refine zs_9_28 ?_
      repeat' first | refine And.intro rfl ?_ | refine And.intro (Or.inl rfl) ?_ | refine And.intro (Or.inr rfl) ?_ | refine And.intro (Nat.le_of_ble_eq_true rfl) ?_ | refine And.intro (And.intro rfl rfl) ?_ | exact rfl
      refine And.intro (fun (h3 : l2 ≤ l4) => ?_) (fun (h3 : ¬ (l2 ≤ l4)) => ?_)
      · rw [if_pos h3] at hr
        refine zs_9_73 ?_
        repeat' first | refine And.intro rfl ?_ | refine And.intro (Or.inl rfl) ?_ | refine And.intro (Or.inr rfl) ?_ | refine And.intro (Nat.le_of_ble_eq_true rfl) ?_ | refine And.intro (And.intro rfl rfl) ?_ | exact rfl
        exact zz_wk [true, true, true, true, false, false] rfl (ih20 _ _ _ _ _ _ _ hr)
      · rw [if_neg h3] at hr
        repeat' first | refine And.intro rfl ?_ | refine And.intro (Or.inl rfl) ?_ | refine And.intro (Or.inr rfl) ?_ | refine And.intro (Nat.le_of_ble_eq_true rfl) ?_ | refine And.intro (And.intro rfl rfl) ?_ | exact rfl
        obtain ⟨r1, cr1, hr⟩ := Option.bind_eq_some_iff.mp hr
        refine Exists.intro _ (Exists.intro _ (And.intro (zr_X1_worth_32__5 F I J d N l3 l4 r1 cr1) ?_))
        repeat' first | refine And.intro rfl ?_ | refine And.intro (Or.inl rfl) ?_ | refine And.intro (Or.inr rfl) ?_ | refine And.intro (Nat.le_of_ble_eq_true rfl) ?_ | refine And.intro (And.intro rfl rfl) ?_ | exact rfl
        refine Exists.intro _ (Exists.intro _ (And.intro (zr_min F r1.2.1 J (d+2) 99 r1.1) ?_))
        repeat' first | refine And.intro rfl ?_ | refine And.intro (Or.inl rfl) ?_ | refine And.intro (Or.inr rfl) ?_ | refine And.intro (Nat.le_of_ble_eq_true rfl) ?_ | refine And.intro (And.intro rfl rfl) ?_ | exact rfl
        refine Exists.intro _ (Exists.intro _ (And.intro (zr_max F r1.2.1 J (d+2) 0 (zz_min 99 r1.1)) ?_))
        repeat' first | refine And.intro rfl ?_ | refine And.intro (Or.inl rfl) ?_ | refine And.intro (Or.inr rfl) ?_ | refine And.intro (Nat.le_of_ble_eq_true rfl) ?_ | refine And.intro (And.intro rfl rfl) ?_ | exact rfl
        have g2 : ¬ (((l3 * 12) + l4) < 0 ∨ 144 ≤ ((l3 * 12) + l4).toNatClampNeg) := zz_g hr
        replace hr := zz_gt hr
        refine And.intro (g2) ?_
        repeat' first | refine And.intro rfl ?_ | refine And.intro (Or.inl rfl) ?_ | refine And.intro (Or.inr rfl) ?_ | refine And.intro (Nat.le_of_ble_eq_true rfl) ?_ | refine And.intro (And.intro rfl rfl) ?_ | exact rfl
        exact zz_wk [true, true, true, true, true, false] rfl (ih28 _ _ _ _ _ _ _ hr)
theorem zr_X1_refresh_32__5 (F : zz_F) (I : Nat → Nat → Int32) (J : Nat → Nat → Int64) (d N : Nat)  (r : Int32 × (Nat → Nat → Int32) × (Nat → Nat → Int64)) (h : zf_X1_refresh_32__5 N  I J = some r) : zz_run (d+3) 9 0 [some (.ref 32), some (.ref 5), none, none, none, none] [] (zz_S F I J) none (zz_S F (r.2.1) (J)) := (zq_X1_refresh_32__5 F d N N).1 0 0 0 0 I J r h
def zb_X8_takesBehind_0 (N : Nat) (rec : Nat → Int32 → Int32 → (Nat → Nat → Int32) → (Nat → Nat → Int64) → Option (Int32 × (Nat → Nat → Int32) × (Nat → Nat → Int64))) (l1 : Int32) (l2 : Int32) (I : Nat → Nat → Int32) (J : Nat → Nat → Int64) : Option (Int32 × (Nat → Nat → Int32) × (Nat → Nat → Int64)) := if (zv_X8_isDigit l1) = 0 then (if ¬ l1 = 41 then (if ¬ l1 = 256 then ((zf_X8_rankOf N l1 I J).bind fun r1 => if r1.1 = 0 then (rec 67 0 0 I J) else (if ¬ r1.1 = 1 then (rec 69 l1 r1.1 I J) else (if ¬ (((I 37 5) >>> ((I 37 4) &&& 31)) &&& 1) = 1 then (rec 69 l1 r1.1 I J) else (rec 67 0 0 I J)))) else (if (0 : Int32) = 0 then (rec 67 0 0 I J) else (if ¬ (0 : Int32) = 1 then (rec 69 l1 0 I J) else (if ¬ (((I 37 5) >>> ((I 37 4) &&& 31)) &&& 1) = 1 then (rec 69 l1 0 I J) else (rec 67 0 0 I J))))) else ((zf_X8_closes N  I J).bind fun r2 => if r2.1 = 0 ∨ r2.1 = 1 then (some (r2.1, r2.2.1, J)) else none)) else (if (zv_X8_lengthens I (l1 - 48)) = 0 ∨ (zv_X8_lengthens I (l1 - 48)) = 1 then (some (zv_X8_lengthens I (l1 - 48), zw_X8_lengthens I (l1 - 48), J)) else none)
def zb_X8_takesBehind_67 (N : Nat) (rec : Nat → Int32 → Int32 → (Nat → Nat → Int32) → (Nat → Nat → Int64) → Option (Int32 × (Nat → Nat → Int32) × (Nat → Nat → Int64))) (l1 : Int32) (l2 : Int32) (I : Nat → Nat → Int32) (J : Nat → Nat → Int64) : Option (Int32 × (Nat → Nat → Int32) × (Nat → Nat → Int64)) := some (0, I, J)
def zb_X8_takesBehind_69 (N : Nat) (rec : Nat → Int32 → Int32 → (Nat → Nat → Int32) → (Nat → Nat → Int64) → Option (Int32 × (Nat → Nat → Int32) × (Nat → Nat → Int64))) (l1 : Int32) (l2 : Int32) (I : Nat → Nat → Int32) (J : Nat → Nat → Int64) : Option (Int32 × (Nat → Nat → Int32) × (Nat → Nat → Int64)) := if ¬ l2 = 1 then (rec 89 l1 l2 I J) else (rec 89 l1 l2 (zz_u I 37 5 ((I 37 5) ||| ((1 : Int32) <<< ((I 37 4) &&& 31)))) J)
def zb_X8_takesBehind_89 (N : Nat) (rec : Nat → Int32 → Int32 → (Nat → Nat → Int32) → (Nat → Nat → Int64) → Option (Int32 × (Nat → Nat → Int32) × (Nat → Nat → Int64))) (l1 : Int32) (l2 : Int32) (I : Nat → Nat → Int32) (J : Nat → Nat → Int64) : Option (Int32 × (Nat → Nat → Int32) × (Nat → Nat → Int64)) := (zf_X8_release N l2 I J).bind fun r5 => some (1, zz_u (zw_X8_hold r5.2.1 l1) 37 7 1, J)
def zl_X8_takesBehind (N : Nat) : Nat → Nat → Int32 → Int32 → (Nat → Nat → Int32) → (Nat → Nat → Int64) → Option (Int32 × (Nat → Nat → Int32) × (Nat → Nat → Int64))
  | 0 => fun _ _ _ _ _ => none
  | n + 1 => fun pc l1 l2 I J => if pc = 0 then zb_X8_takesBehind_0 N (zl_X8_takesBehind N n) l1 l2 I J else (if pc = 67 then zb_X8_takesBehind_67 N (zl_X8_takesBehind N n) l1 l2 I J else (if pc = 69 then zb_X8_takesBehind_69 N (zl_X8_takesBehind N n) l1 l2 I J else (if pc = 89 then zb_X8_takesBehind_89 N (zl_X8_takesBehind N n) l1 l2 I J else none)))
def zf_X8_takesBehind (N : Nat) (l1 : Int32) (I : Nat → Nat → Int32) (J : Nat → Nat → Int64) : Option (Int32 × (Nat → Nat → Int32) × (Nat → Nat → Int64)) := zl_X8_takesBehind N N 0 l1 0 I J
theorem zq_X8_takesBehind (F : zz_F) (d N : Nat) : ∀ n : Nat, (∀ (l1 : Int32) (l2 : Int32) (I : Nat → Nat → Int32) (J : Nat → Nat → Int64) (r : Int32 × (Nat → Nat → Int32) × (Nat → Nat → Int64)), zl_X8_takesBehind N n 0 l1 l2 I J = some r → zz_run (d+3) 105 0 [some (.ref 37), some (.int (l1)), none] [] (zz_S F I J) (some (.int (r.1))) (zz_S F (r.2.1) (J))) ∧ (∀ (l1 : Int32) (l2 : Int32) (I : Nat → Nat → Int32) (J : Nat → Nat → Int64) (r : Int32 × (Nat → Nat → Int32) × (Nat → Nat → Int64)), zl_X8_takesBehind N n 67 l1 l2 I J = some r → zz_run (d+3) 105 67 [some (.ref 37), none, none] [] (zz_S F I J) (some (.int (r.1))) (zz_S F (r.2.1) (J))) ∧ (∀ (l1 : Int32) (l2 : Int32) (I : Nat → Nat → Int32) (J : Nat → Nat → Int64) (r : Int32 × (Nat → Nat → Int32) × (Nat → Nat → Int64)), zl_X8_takesBehind N n 69 l1 l2 I J = some r → zz_run (d+3) 105 69 [some (.ref 37), some (.int (l1)), some (.int (l2))] [] (zz_S F I J) (some (.int (r.1))) (zz_S F (r.2.1) (J))) ∧ (∀ (l1 : Int32) (l2 : Int32) (I : Nat → Nat → Int32) (J : Nat → Nat → Int64) (r : Int32 × (Nat → Nat → Int32) × (Nat → Nat → Int64)), zl_X8_takesBehind N n 89 l1 l2 I J = some r → zz_run (d+3) 105 89 [some (.ref 37), some (.int (l1)), some (.int (l2))] [] (zz_S F I J) (some (.int (r.1))) (zz_S F (r.2.1) (J))) := by
  intro n
  induction n with
  | zero => exact ⟨fun _ _ _ _ _ h => zz_no h, fun _ _ _ _ _ h => zz_no h, fun _ _ _ _ _ h => zz_no h, fun _ _ _ _ _ h => zz_no h⟩
  | succ n ih =>
    obtain ⟨ih0, ih67, ih69, ih89⟩ := ih
    refine ⟨?_, ?_, ?_, ?_⟩
    · intro l1 l2 I J r hr
      replace hr : zb_X8_takesBehind_0 N (zl_X8_takesBehind N n) l1 l2 I J = some r := hr
      unfold zb_X8_takesBehind_0 at hr
      refine zs_105_0 ?_
      repeat' first | refine And.intro rfl ?_ | refine And.intro (Or.inl rfl) ?_ | refine And.intro (Or.inr rfl) ?_ | refine And.intro (Nat.le_of_ble_eq_true rfl) ?_ | refine And.intro (And.intro rfl rfl) ?_ | exact rfl
      refine Exists.intro _ (Exists.intro _ (And.intro (zr_X8_isDigit F I J (d+2) l1) ?_))
      repeat' first | refine And.intro rfl ?_ | refine And.intro (Or.inl rfl) ?_ | refine And.intro (Or.inr rfl) ?_ | refine And.intro (Nat.le_of_ble_eq_true rfl) ?_ | refine And.intro (And.intro rfl rfl) ?_ | exact rfl
      refine And.intro (fun (h1 : (zv_X8_isDigit l1) = 0) => ?_) (fun (h1 : ¬ ((zv_X8_isDigit l1) = 0)) => ?_)
      · rw [if_pos h1] at hr
        refine zs_105_16 ?_
        repeat' first | refine And.intro rfl ?_ | refine And.intro (Or.inl rfl) ?_ | refine And.intro (Or.inr rfl) ?_ | refine And.intro (Nat.le_of_ble_eq_true rfl) ?_ | refine And.intro (And.intro rfl rfl) ?_ | exact rfl
        refine And.intro (fun (h2 : ¬ l1 = 41) => ?_) (fun (h2 : ¬ (¬ l1 = 41)) => ?_)
        · rw [if_pos h2] at hr
          refine zs_105_27 ?_
          repeat' first | refine And.intro rfl ?_ | refine And.intro (Or.inl rfl) ?_ | refine And.intro (Or.inr rfl) ?_ | refine And.intro (Nat.le_of_ble_eq_true rfl) ?_ | refine And.intro (And.intro rfl rfl) ?_ | exact rfl
          refine And.intro (fun (h3 : ¬ l1 = 256) => ?_) (fun (h3 : ¬ (¬ l1 = 256)) => ?_)
          · rw [if_pos h3] at hr
            refine zs_105_38 ?_
            repeat' first | refine And.intro rfl ?_ | refine And.intro (Or.inl rfl) ?_ | refine And.intro (Or.inr rfl) ?_ | refine And.intro (Nat.le_of_ble_eq_true rfl) ?_ | refine And.intro (And.intro rfl rfl) ?_ | exact rfl
            obtain ⟨r1, cr1, hr⟩ := Option.bind_eq_some_iff.mp hr
            refine Exists.intro _ (Exists.intro _ (And.intro (zr_X8_rankOf F I J (d+2) N l1 r1 cr1) ?_))
            repeat' first | refine And.intro rfl ?_ | refine And.intro (Or.inl rfl) ?_ | refine And.intro (Or.inr rfl) ?_ | refine And.intro (Nat.le_of_ble_eq_true rfl) ?_ | refine And.intro (And.intro rfl rfl) ?_ | exact rfl
            refine zs_105_42 ?_
            repeat' first | refine And.intro rfl ?_ | refine And.intro (Or.inl rfl) ?_ | refine And.intro (Or.inr rfl) ?_ | refine And.intro (Nat.le_of_ble_eq_true rfl) ?_ | refine And.intro (And.intro rfl rfl) ?_ | exact rfl
            refine And.intro (fun (h4 : r1.1 = 0) => ?_) (fun (h4 : ¬ (r1.1 = 0)) => ?_)
            · rw [if_pos h4] at hr
              exact zz_wk [true, false, false] rfl (ih67 _ _ _ _ _ hr)
            · rw [if_neg h4] at hr
              repeat' first | refine And.intro rfl ?_ | refine And.intro (Or.inl rfl) ?_ | refine And.intro (Or.inr rfl) ?_ | refine And.intro (Nat.le_of_ble_eq_true rfl) ?_ | refine And.intro (And.intro rfl rfl) ?_ | exact rfl
              refine And.intro (fun (h5 : ¬ r1.1 = 1) => ?_) (fun (h5 : ¬ (¬ r1.1 = 1)) => ?_)
              · rw [if_pos h5] at hr
                exact zz_wk [true, true, true] rfl (ih69 _ _ _ _ _ hr)
              · rw [if_neg h5] at hr
                repeat' first | refine And.intro rfl ?_ | refine And.intro (Or.inl rfl) ?_ | refine And.intro (Or.inr rfl) ?_ | refine And.intro (Nat.le_of_ble_eq_true rfl) ?_ | refine And.intro (And.intro rfl rfl) ?_ | exact rfl
                refine And.intro (fun (h6 : ¬ (((I 37 5) >>> ((I 37 4) &&& 31)) &&& 1) = 1) => ?_) (fun (h6 : ¬ (¬ (((I 37 5) >>> ((I 37 4) &&& 31)) &&& 1) = 1)) => ?_)
                · rw [if_pos h6] at hr
                  exact zz_wk [true, true, true] rfl (ih69 _ _ _ _ _ hr)
                · rw [if_neg h6] at hr
                  repeat' first | refine And.intro rfl ?_ | refine And.intro (Or.inl rfl) ?_ | refine And.intro (Or.inr rfl) ?_ | refine And.intro (Nat.le_of_ble_eq_true rfl) ?_ | refine And.intro (And.intro rfl rfl) ?_ | exact rfl
                  exact zz_wk [true, false, false] rfl (ih67 _ _ _ _ _ hr)
          · rw [if_neg h3] at hr
            repeat' first | refine And.intro rfl ?_ | refine And.intro (Or.inl rfl) ?_ | refine And.intro (Or.inr rfl) ?_ | refine And.intro (Nat.le_of_ble_eq_true rfl) ?_ | refine And.intro (And.intro rfl rfl) ?_ | exact rfl
            refine zs_105_42 ?_
            repeat' first | refine And.intro rfl ?_ | refine And.intro (Or.inl rfl) ?_ | refine And.intro (Or.inr rfl) ?_ | refine And.intro (Nat.le_of_ble_eq_true rfl) ?_ | refine And.intro (And.intro rfl rfl) ?_ | exact rfl
            refine And.intro (fun (h7 : (0 : Int32) = 0) => ?_) (fun (h7 : ¬ ((0 : Int32) = 0)) => ?_)
            · rw [if_pos h7] at hr
              exact zz_wk [true, false, false] rfl (ih67 _ _ _ _ _ hr)
            · rw [if_neg h7] at hr
              repeat' first | refine And.intro rfl ?_ | refine And.intro (Or.inl rfl) ?_ | refine And.intro (Or.inr rfl) ?_ | refine And.intro (Nat.le_of_ble_eq_true rfl) ?_ | refine And.intro (And.intro rfl rfl) ?_ | exact rfl
              refine And.intro (fun (h8 : ¬ (0 : Int32) = 1) => ?_) (fun (h8 : ¬ (¬ (0 : Int32) = 1)) => ?_)
              · rw [if_pos h8] at hr
                exact zz_wk [true, true, true] rfl (ih69 _ _ _ _ _ hr)
              · rw [if_neg h8] at hr
                repeat' first | refine And.intro rfl ?_ | refine And.intro (Or.inl rfl) ?_ | refine And.intro (Or.inr rfl) ?_ | refine And.intro (Nat.le_of_ble_eq_true rfl) ?_ | refine And.intro (And.intro rfl rfl) ?_ | exact rfl
                refine And.intro (fun (h9 : ¬ (((I 37 5) >>> ((I 37 4) &&& 31)) &&& 1) = 1) => ?_) (fun (h9 : ¬ (¬ (((I 37 5) >>> ((I 37 4) &&& 31)) &&& 1) = 1)) => ?_)
                · rw [if_pos h9] at hr
                  exact zz_wk [true, true, true] rfl (ih69 _ _ _ _ _ hr)
                · rw [if_neg h9] at hr
                  repeat' first | refine And.intro rfl ?_ | refine And.intro (Or.inl rfl) ?_ | refine And.intro (Or.inr rfl) ?_ | refine And.intro (Nat.le_of_ble_eq_true rfl) ?_ | refine And.intro (And.intro rfl rfl) ?_ | exact rfl
                  exact zz_wk [true, false, false] rfl (ih67 _ _ _ _ _ hr)
        · rw [if_neg h2] at hr
          repeat' first | refine And.intro rfl ?_ | refine And.intro (Or.inl rfl) ?_ | refine And.intro (Or.inr rfl) ?_ | refine And.intro (Nat.le_of_ble_eq_true rfl) ?_ | refine And.intro (And.intro rfl rfl) ?_ | exact rfl
          obtain ⟨r2, cr2, hr⟩ := Option.bind_eq_some_iff.mp hr
          refine Exists.intro _ (Exists.intro _ (And.intro (zr_X8_closes F I J d N  r2 cr2) ?_))
          repeat' first | refine And.intro rfl ?_ | refine And.intro (Or.inl rfl) ?_ | refine And.intro (Or.inr rfl) ?_ | refine And.intro (Nat.le_of_ble_eq_true rfl) ?_ | refine And.intro (And.intro rfl rfl) ?_ | exact rfl
          have g3 : r2.1 = 0 ∨ r2.1 = 1 := zz_g hr
          replace hr := zz_gt hr
          cases hr
          repeat' first | refine And.intro rfl ?_ | refine And.intro (Or.inl rfl) ?_ | refine And.intro (Or.inr rfl) ?_ | refine And.intro (Nat.le_of_ble_eq_true rfl) ?_ | refine And.intro (And.intro rfl rfl) ?_ | exact rfl
          exact zz_nb g3
      · rw [if_neg h1] at hr
        repeat' first | refine And.intro rfl ?_ | refine And.intro (Or.inl rfl) ?_ | refine And.intro (Or.inr rfl) ?_ | refine And.intro (Nat.le_of_ble_eq_true rfl) ?_ | refine And.intro (And.intro rfl rfl) ?_ | exact rfl
        refine Exists.intro _ (Exists.intro _ (And.intro (zr_X8_lengthens F I J (d+2) (l1 - 48)) ?_))
        repeat' first | refine And.intro rfl ?_ | refine And.intro (Or.inl rfl) ?_ | refine And.intro (Or.inr rfl) ?_ | refine And.intro (Nat.le_of_ble_eq_true rfl) ?_ | refine And.intro (And.intro rfl rfl) ?_ | exact rfl
        have g4 : (zv_X8_lengthens I (l1 - 48)) = 0 ∨ (zv_X8_lengthens I (l1 - 48)) = 1 := zz_g hr
        replace hr := zz_gt hr
        cases hr
        repeat' first | refine And.intro rfl ?_ | refine And.intro (Or.inl rfl) ?_ | refine And.intro (Or.inr rfl) ?_ | refine And.intro (Nat.le_of_ble_eq_true rfl) ?_ | refine And.intro (And.intro rfl rfl) ?_ | exact rfl
        exact zz_nb g4
    · intro l1 l2 I J r hr
      replace hr : zb_X8_takesBehind_67 N (zl_X8_takesBehind N n) l1 l2 I J = some r := hr
      unfold zb_X8_takesBehind_67 at hr
      refine zs_105_67 ?_
      repeat' first | refine And.intro rfl ?_ | refine And.intro (Or.inl rfl) ?_ | refine And.intro (Or.inr rfl) ?_ | refine And.intro (Nat.le_of_ble_eq_true rfl) ?_ | refine And.intro (And.intro rfl rfl) ?_ | exact rfl
      cases hr
      repeat' first | refine And.intro rfl ?_ | refine And.intro (Or.inl rfl) ?_ | refine And.intro (Or.inr rfl) ?_ | refine And.intro (Nat.le_of_ble_eq_true rfl) ?_ | refine And.intro (And.intro rfl rfl) ?_ | exact rfl
    · intro l1 l2 I J r hr
      replace hr : zb_X8_takesBehind_69 N (zl_X8_takesBehind N n) l1 l2 I J = some r := hr
      unfold zb_X8_takesBehind_69 at hr
      refine zs_105_69 ?_
      repeat' first | refine And.intro rfl ?_ | refine And.intro (Or.inl rfl) ?_ | refine And.intro (Or.inr rfl) ?_ | refine And.intro (Nat.le_of_ble_eq_true rfl) ?_ | refine And.intro (And.intro rfl rfl) ?_ | exact rfl
      refine And.intro (fun (h10 : ¬ l2 = 1) => ?_) (fun (h10 : ¬ (¬ l2 = 1)) => ?_)
      · rw [if_pos h10] at hr
        exact zz_wk [true, true, true] rfl (ih89 _ _ _ _ _ hr)
      · rw [if_neg h10] at hr
        repeat' first | refine And.intro rfl ?_ | refine And.intro (Or.inl rfl) ?_ | refine And.intro (Or.inr rfl) ?_ | refine And.intro (Nat.le_of_ble_eq_true rfl) ?_ | refine And.intro (And.intro rfl rfl) ?_ | exact rfl
        exact zz_wk [true, true, true] rfl (ih89 _ _ _ _ _ hr)
    · intro l1 l2 I J r hr
      replace hr : zb_X8_takesBehind_89 N (zl_X8_takesBehind N n) l1 l2 I J = some r := hr
      unfold zb_X8_takesBehind_89 at hr
      refine zs_105_89 ?_
      repeat' first | refine And.intro rfl ?_ | refine And.intro (Or.inl rfl) ?_ | refine And.intro (Or.inr rfl) ?_ | refine And.intro (Nat.le_of_ble_eq_true rfl) ?_ | refine And.intro (And.intro rfl rfl) ?_ | exact rfl
      obtain ⟨r5, cr5, hr⟩ := Option.bind_eq_some_iff.mp hr
      refine Exists.intro _ (Exists.intro _ (And.intro (zr_X8_release F I J (d+1) N l2 r5 cr5) ?_))
      repeat' first | refine And.intro rfl ?_ | refine And.intro (Or.inl rfl) ?_ | refine And.intro (Or.inr rfl) ?_ | refine And.intro (Nat.le_of_ble_eq_true rfl) ?_ | refine And.intro (And.intro rfl rfl) ?_ | exact rfl
      refine Exists.intro _ (Exists.intro _ (And.intro (zr_X8_hold F r5.2.1 J (d+2) l1) ?_))
      repeat' first | refine And.intro rfl ?_ | refine And.intro (Or.inl rfl) ?_ | refine And.intro (Or.inr rfl) ?_ | refine And.intro (Nat.le_of_ble_eq_true rfl) ?_ | refine And.intro (And.intro rfl rfl) ?_ | exact rfl
      cases hr
      repeat' first | refine And.intro rfl ?_ | refine And.intro (Or.inl rfl) ?_ | refine And.intro (Or.inr rfl) ?_ | refine And.intro (Nat.le_of_ble_eq_true rfl) ?_ | refine And.intro (And.intro rfl rfl) ?_ | exact rfl
theorem zr_X8_takesBehind (F : zz_F) (I : Nat → Nat → Int32) (J : Nat → Nat → Int64) (d N : Nat) (l1 : Int32) (r : Int32 × (Nat → Nat → Int32) × (Nat → Nat → Int64)) (h : zf_X8_takesBehind N l1 I J = some r) : zz_run (d+3) 105 0 [some (.ref 37), some (.int (l1)), none] [] (zz_S F I J) (some (.int (r.1))) (zz_S F (r.2.1) (J)) := (zq_X8_takesBehind F d N N).1 l1 0 I J r h
def zb_X11_change_0 (N : Nat) (rec : Nat → Int32 → Int32 → (Nat → Nat → Int32) → (Nat → Nat → Int64) → Option (Int32 × (Nat → Nat → Int32) × (Nat → Nat → Int64))) (l1 : Int32) (l2 : Int32) (I : Nat → Nat → Int32) (J : Nat → Nat → Int64) : Option (Int32 × (Nat → Nat → Int32) × (Nat → Nat → Int64)) := if (zv_X9_has I l1) = 0 then (some ((-1), I, J)) else (if ¬ (zv_X9_has I l2) = 0 then ((zf_X1_refresh__5 N  I J).bind fun r1 => if (¬ (l1 < 0)) → (¬ (12 ≤ l1)) → (¬ (l2 < 0)) → (l2 < 12) → (¬ (((l1 * 12) + l2) < 0 ∨ 144 ≤ ((l1 * 12) + l2).toNatClampNeg)) then (some (zv_X1_between (zw_X11_tell_ r1.2.1 J (((zz_f r1.2.1 l1 2) &&& (zz_f r1.2.1 l2 2)).toInt64) (((zz_f r1.2.1 l1 3) ^^^ (zz_f r1.2.1 l2 3)).toInt64)) l1 l2, zw_X11_tell_ r1.2.1 J (((zz_f r1.2.1 l1 2) &&& (zz_f r1.2.1 l2 2)).toInt64) (((zz_f r1.2.1 l1 3) ^^^ (zz_f r1.2.1 l2 3)).toInt64), zx_X11_tell_ r1.2.1 J (((zz_f r1.2.1 l1 2) &&& (zz_f r1.2.1 l2 2)).toInt64) (((zz_f r1.2.1 l1 3) ^^^ (zz_f r1.2.1 l2 3)).toInt64))) else none) else (some ((-1), I, J)))
def zl_X11_change (N : Nat) : Nat → Nat → Int32 → Int32 → (Nat → Nat → Int32) → (Nat → Nat → Int64) → Option (Int32 × (Nat → Nat → Int32) × (Nat → Nat → Int64))
  | 0 => fun _ _ _ _ _ => none
  | n + 1 => fun pc l1 l2 I J => if pc = 0 then zb_X11_change_0 N (zl_X11_change N n) l1 l2 I J else none
def zf_X11_change (N : Nat) (l1 : Int32) (l2 : Int32) (I : Nat → Nat → Int32) (J : Nat → Nat → Int64) : Option (Int32 × (Nat → Nat → Int32) × (Nat → Nat → Int64)) := zl_X11_change N N 0 l1 l2 I J
theorem zq_X11_change (F : zz_F) (d N : Nat) : ∀ n : Nat, (∀ (l1 : Int32) (l2 : Int32) (I : Nat → Nat → Int32) (J : Nat → Nat → Int64) (r : Int32 × (Nat → Nat → Int32) × (Nat → Nat → Int64)), zl_X11_change N n 0 l1 l2 I J = some r → zz_run (d+4) 147 0 [some (.ref 2), some (.int (l1)), some (.int (l2))] [] (zz_S F I J) (some (.int (r.1))) (zz_S F (r.2.1) (r.2.2))) := by
  intro n
  induction n with
  | zero => exact fun _ _ _ _ _ h => zz_no h
  | succ n ih =>
    have ih0 := ih
    skip
    · intro l1 l2 I J r hr
      replace hr : zb_X11_change_0 N (zl_X11_change N n) l1 l2 I J = some r := hr
      unfold zb_X11_change_0 at hr
      refine zs_147_0 ?_
      repeat' first | refine And.intro rfl ?_ | refine And.intro (Or.inl rfl) ?_ | refine And.intro (Or.inr rfl) ?_ | refine And.intro (Nat.le_of_ble_eq_true rfl) ?_ | refine And.intro (And.intro rfl rfl) ?_ | exact rfl
      refine Exists.intro _ (Exists.intro _ (And.intro (zr_X9_has F I J (d+3) l1) ?_))
      repeat' first | refine And.intro rfl ?_ | refine And.intro (Or.inl rfl) ?_ | refine And.intro (Or.inr rfl) ?_ | refine And.intro (Nat.le_of_ble_eq_true rfl) ?_ | refine And.intro (And.intro rfl rfl) ?_ | exact rfl
      refine And.intro (fun (h1 : (zv_X9_has I l1) = 0) => ?_) (fun (h1 : ¬ ((zv_X9_has I l1) = 0)) => ?_)
      · rw [if_pos h1] at hr
        refine zs_147_22 ?_
        repeat' first | refine And.intro rfl ?_ | refine And.intro (Or.inl rfl) ?_ | refine And.intro (Or.inr rfl) ?_ | refine And.intro (Nat.le_of_ble_eq_true rfl) ?_ | refine And.intro (And.intro rfl rfl) ?_ | exact rfl
        cases hr
        repeat' first | refine And.intro rfl ?_ | refine And.intro (Or.inl rfl) ?_ | refine And.intro (Or.inr rfl) ?_ | refine And.intro (Nat.le_of_ble_eq_true rfl) ?_ | refine And.intro (And.intro rfl rfl) ?_ | exact rfl
      · rw [if_neg h1] at hr
        repeat' first | refine And.intro rfl ?_ | refine And.intro (Or.inl rfl) ?_ | refine And.intro (Or.inr rfl) ?_ | refine And.intro (Nat.le_of_ble_eq_true rfl) ?_ | refine And.intro (And.intro rfl rfl) ?_ | exact rfl
        refine Exists.intro _ (Exists.intro _ (And.intro (zr_X9_has F I J (d+3) l2) ?_))
        repeat' first | refine And.intro rfl ?_ | refine And.intro (Or.inl rfl) ?_ | refine And.intro (Or.inr rfl) ?_ | refine And.intro (Nat.le_of_ble_eq_true rfl) ?_ | refine And.intro (And.intro rfl rfl) ?_ | exact rfl
        refine And.intro (fun (h2 : ¬ (zv_X9_has I l2) = 0) => ?_) (fun (h2 : ¬ (¬ (zv_X9_has I l2) = 0)) => ?_)
        · rw [if_pos h2] at hr
          refine zs_147_24 ?_
          repeat' first | refine And.intro rfl ?_ | refine And.intro (Or.inl rfl) ?_ | refine And.intro (Or.inr rfl) ?_ | refine And.intro (Nat.le_of_ble_eq_true rfl) ?_ | refine And.intro (And.intro rfl rfl) ?_ | exact rfl
          obtain ⟨r1, cr1, hr⟩ := Option.bind_eq_some_iff.mp hr
          refine Exists.intro _ (Exists.intro _ (And.intro (zr_X1_refresh__5 F I J d N  r1 cr1) ?_))
          repeat' first | refine And.intro rfl ?_ | refine And.intro (Or.inl rfl) ?_ | refine And.intro (Or.inr rfl) ?_ | refine And.intro (Nat.le_of_ble_eq_true rfl) ?_ | refine And.intro (And.intro rfl rfl) ?_ | exact rfl
          refine Exists.intro _ (Exists.intro _ (And.intro (zr_of F r1.2.1 J (d+3) l1 2) ?_))
          repeat' first | refine And.intro rfl ?_ | refine And.intro (Or.inl rfl) ?_ | refine And.intro (Or.inr rfl) ?_ | refine And.intro (Nat.le_of_ble_eq_true rfl) ?_ | refine And.intro (And.intro rfl rfl) ?_ | exact rfl
          refine Exists.intro _ (Exists.intro _ (And.intro (zr_of F r1.2.1 J (d+3) l2 2) ?_))
          repeat' first | refine And.intro rfl ?_ | refine And.intro (Or.inl rfl) ?_ | refine And.intro (Or.inr rfl) ?_ | refine And.intro (Nat.le_of_ble_eq_true rfl) ?_ | refine And.intro (And.intro rfl rfl) ?_ | exact rfl
          refine Exists.intro _ (Exists.intro _ (And.intro (zr_of F r1.2.1 J (d+3) l1 3) ?_))
          repeat' first | refine And.intro rfl ?_ | refine And.intro (Or.inl rfl) ?_ | refine And.intro (Or.inr rfl) ?_ | refine And.intro (Nat.le_of_ble_eq_true rfl) ?_ | refine And.intro (And.intro rfl rfl) ?_ | exact rfl
          refine Exists.intro _ (Exists.intro _ (And.intro (zr_of F r1.2.1 J (d+3) l2 3) ?_))
          repeat' first | refine And.intro rfl ?_ | refine And.intro (Or.inl rfl) ?_ | refine And.intro (Or.inr rfl) ?_ | refine And.intro (Nat.le_of_ble_eq_true rfl) ?_ | refine And.intro (And.intro rfl rfl) ?_ | exact rfl
          refine Exists.intro _ (Exists.intro _ (And.intro (zr_X11_tell_ F r1.2.1 J (d+1) (((zz_f r1.2.1 l1 2) &&& (zz_f r1.2.1 l2 2)).toInt64) (((zz_f r1.2.1 l1 3) ^^^ (zz_f r1.2.1 l2 3)).toInt64)) ?_))
          repeat' first | refine And.intro rfl ?_ | refine And.intro (Or.inl rfl) ?_ | refine And.intro (Or.inr rfl) ?_ | refine And.intro (Nat.le_of_ble_eq_true rfl) ?_ | refine And.intro (And.intro rfl rfl) ?_ | exact rfl
          have g2 : (¬ (l1 < 0)) → (¬ (12 ≤ l1)) → (¬ (l2 < 0)) → (l2 < 12) → (¬ (((l1 * 12) + l2) < 0 ∨ 144 ≤ ((l1 * 12) + l2).toNatClampNeg)) := zz_g hr
          replace hr := zz_gt hr
          refine Exists.intro _ (Exists.intro _ (And.intro (zr_X1_between F (zw_X11_tell_ r1.2.1 J (((zz_f r1.2.1 l1 2) &&& (zz_f r1.2.1 l2 2)).toInt64) (((zz_f r1.2.1 l1 3) ^^^ (zz_f r1.2.1 l2 3)).toInt64)) (zx_X11_tell_ r1.2.1 J (((zz_f r1.2.1 l1 2) &&& (zz_f r1.2.1 l2 2)).toInt64) (((zz_f r1.2.1 l1 3) ^^^ (zz_f r1.2.1 l2 3)).toInt64)) (d+3) l1 l2 g2) ?_))
          repeat' first | refine And.intro rfl ?_ | refine And.intro (Or.inl rfl) ?_ | refine And.intro (Or.inr rfl) ?_ | refine And.intro (Nat.le_of_ble_eq_true rfl) ?_ | refine And.intro (And.intro rfl rfl) ?_ | exact rfl
          cases hr
          repeat' first | refine And.intro rfl ?_ | refine And.intro (Or.inl rfl) ?_ | refine And.intro (Or.inr rfl) ?_ | refine And.intro (Nat.le_of_ble_eq_true rfl) ?_ | refine And.intro (And.intro rfl rfl) ?_ | exact rfl
        · rw [if_neg h2] at hr
          repeat' first | refine And.intro rfl ?_ | refine And.intro (Or.inl rfl) ?_ | refine And.intro (Or.inr rfl) ?_ | refine And.intro (Nat.le_of_ble_eq_true rfl) ?_ | refine And.intro (And.intro rfl rfl) ?_ | exact rfl
          refine zs_147_22 ?_
          repeat' first | refine And.intro rfl ?_ | refine And.intro (Or.inl rfl) ?_ | refine And.intro (Or.inr rfl) ?_ | refine And.intro (Nat.le_of_ble_eq_true rfl) ?_ | refine And.intro (And.intro rfl rfl) ?_ | exact rfl
          cases hr
          repeat' first | refine And.intro rfl ?_ | refine And.intro (Or.inl rfl) ?_ | refine And.intro (Or.inr rfl) ?_ | refine And.intro (Nat.le_of_ble_eq_true rfl) ?_ | refine And.intro (And.intro rfl rfl) ?_ | exact rfl
theorem zr_X11_change (F : zz_F) (I : Nat → Nat → Int32) (J : Nat → Nat → Int64) (d N : Nat) (l1 : Int32) (l2 : Int32) (r : Int32 × (Nat → Nat → Int32) × (Nat → Nat → Int64)) (h : zf_X11_change N l1 l2 I J = some r) : zz_run (d+4) 147 0 [some (.ref 2), some (.int (l1)), some (.int (l2))] [] (zz_S F I J) (some (.int (r.1))) (zz_S F (r.2.1) (r.2.2)) := (zq_X11_change F d N N) l1 l2 I J r h
def zb_X11_readyLoom__28_0 (N : Nat) (rec : Nat → (Nat → Nat → Int32) → (Nat → Nat → Int64) → Option (Int32 × (Nat → Nat → Int32) × (Nat → Nat → Int64)))  (I : Nat → Nat → Int32) (J : Nat → Nat → Int64) : Option (Int32 × (Nat → Nat → Int32) × (Nat → Nat → Int64)) := (zf_X1_refresh__5 N  I J).bind fun r1 => (zf_X4_setCosts__28 N (r1.2.1 8 1) r1.2.1 J).bind fun r2 => (zf_X4_lay N (r2.2.1 8 2) r2.2.1 J).bind fun r3 => some (0, r3.2.1, J)
def zl_X11_readyLoom__28 (N : Nat) : Nat → Nat → (Nat → Nat → Int32) → (Nat → Nat → Int64) → Option (Int32 × (Nat → Nat → Int32) × (Nat → Nat → Int64))
  | 0 => fun _ _ _ => none
  | n + 1 => fun pc  I J => if pc = 0 then zb_X11_readyLoom__28_0 N (zl_X11_readyLoom__28 N n)  I J else none
def zf_X11_readyLoom__28 (N : Nat)  (I : Nat → Nat → Int32) (J : Nat → Nat → Int64) : Option (Int32 × (Nat → Nat → Int32) × (Nat → Nat → Int64)) := zl_X11_readyLoom__28 N N 0  I J
theorem zq_X11_readyLoom__28 (F : zz_F) (d N : Nat) : ∀ n : Nat, (∀  (I : Nat → Nat → Int32) (J : Nat → Nat → Int64) (r : Int32 × (Nat → Nat → Int32) × (Nat → Nat → Int64)), zl_X11_readyLoom__28 N n 0  I J = some r → zz_run (d+4) 198 0 [some (.ref 2), some (.ref 28)] [] (zz_S F I J) none (zz_S F (r.2.1) (J))) := by
  intro n
  induction n with
  | zero => exact fun _ _ _ h => zz_no h
  | succ n ih =>
    have ih0 := ih
    skip
    · intro  I J r hr
      replace hr : zb_X11_readyLoom__28_0 N (zl_X11_readyLoom__28 N n)  I J = some r := hr
      unfold zb_X11_readyLoom__28_0 at hr
      refine zs_198_0 ?_
      repeat' first | refine And.intro rfl ?_ | refine And.intro (Or.inl rfl) ?_ | refine And.intro (Or.inr rfl) ?_ | refine And.intro (Nat.le_of_ble_eq_true rfl) ?_ | refine And.intro (And.intro rfl rfl) ?_ | exact rfl
      obtain ⟨r1, cr1, hr⟩ := Option.bind_eq_some_iff.mp hr
      refine Exists.intro _ (Exists.intro _ (And.intro (zr_X1_refresh__5 F I J d N  r1 cr1) ?_))
      repeat' first | refine And.intro rfl ?_ | refine And.intro (Or.inl rfl) ?_ | refine And.intro (Or.inr rfl) ?_ | refine And.intro (Nat.le_of_ble_eq_true rfl) ?_ | refine And.intro (And.intro rfl rfl) ?_ | exact rfl
      obtain ⟨r2, cr2, hr⟩ := Option.bind_eq_some_iff.mp hr
      refine Exists.intro _ (Exists.intro _ (And.intro (zr_X4_setCosts__28 F r1.2.1 J (d+2) N (r1.2.1 8 1) r2 cr2) ?_))
      repeat' first | refine And.intro rfl ?_ | refine And.intro (Or.inl rfl) ?_ | refine And.intro (Or.inr rfl) ?_ | refine And.intro (Nat.le_of_ble_eq_true rfl) ?_ | refine And.intro (And.intro rfl rfl) ?_ | exact rfl
      obtain ⟨r3, cr3, hr⟩ := Option.bind_eq_some_iff.mp hr
      refine Exists.intro _ (Exists.intro _ (And.intro (zr_X4_lay F r2.2.1 J (d+1) N (r2.2.1 8 2) r3 cr3) ?_))
      repeat' first | refine And.intro rfl ?_ | refine And.intro (Or.inl rfl) ?_ | refine And.intro (Or.inr rfl) ?_ | refine And.intro (Nat.le_of_ble_eq_true rfl) ?_ | refine And.intro (And.intro rfl rfl) ?_ | exact rfl
      cases hr
      repeat' first | refine And.intro rfl ?_ | refine And.intro (Or.inl rfl) ?_ | refine And.intro (Or.inr rfl) ?_ | refine And.intro (Nat.le_of_ble_eq_true rfl) ?_ | refine And.intro (And.intro rfl rfl) ?_ | exact rfl
theorem zr_X11_readyLoom__28 (F : zz_F) (I : Nat → Nat → Int32) (J : Nat → Nat → Int64) (d N : Nat)  (r : Int32 × (Nat → Nat → Int32) × (Nat → Nat → Int64)) (h : zf_X11_readyLoom__28 N  I J = some r) : zz_run (d+4) 198 0 [some (.ref 2), some (.ref 28)] [] (zz_S F I J) none (zz_S F (r.2.1) (J)) := (zq_X11_readyLoom__28 F d N N)  I J r h
def zb_X11_readyLoom__32_0 (N : Nat) (rec : Nat → (Nat → Nat → Int32) → (Nat → Nat → Int64) → Option (Int32 × (Nat → Nat → Int32) × (Nat → Nat → Int64)))  (I : Nat → Nat → Int32) (J : Nat → Nat → Int64) : Option (Int32 × (Nat → Nat → Int32) × (Nat → Nat → Int64)) := (zf_X1_refresh_32__5 N  I J).bind fun r1 => (zf_X4_setCosts__32 N (r1.2.1 8 1) r1.2.1 J).bind fun r2 => (zf_X4_lay N (r2.2.1 8 2) r2.2.1 J).bind fun r3 => some (0, r3.2.1, J)
def zl_X11_readyLoom__32 (N : Nat) : Nat → Nat → (Nat → Nat → Int32) → (Nat → Nat → Int64) → Option (Int32 × (Nat → Nat → Int32) × (Nat → Nat → Int64))
  | 0 => fun _ _ _ => none
  | n + 1 => fun pc  I J => if pc = 0 then zb_X11_readyLoom__32_0 N (zl_X11_readyLoom__32 N n)  I J else none
def zf_X11_readyLoom__32 (N : Nat)  (I : Nat → Nat → Int32) (J : Nat → Nat → Int64) : Option (Int32 × (Nat → Nat → Int32) × (Nat → Nat → Int64)) := zl_X11_readyLoom__32 N N 0  I J
theorem zq_X11_readyLoom__32 (F : zz_F) (d N : Nat) : ∀ n : Nat, (∀  (I : Nat → Nat → Int32) (J : Nat → Nat → Int64) (r : Int32 × (Nat → Nat → Int32) × (Nat → Nat → Int64)), zl_X11_readyLoom__32 N n 0  I J = some r → zz_run (d+4) 198 0 [some (.ref 2), some (.ref 32)] [] (zz_S F I J) none (zz_S F (r.2.1) (J))) := by
  intro n
  induction n with
  | zero => exact fun _ _ _ h => zz_no h
  | succ n ih =>
    have ih0 := ih
    skip
    · intro  I J r hr
      replace hr : zb_X11_readyLoom__32_0 N (zl_X11_readyLoom__32 N n)  I J = some r := hr
      unfold zb_X11_readyLoom__32_0 at hr
      refine zs_198_0 ?_
      repeat' first | refine And.intro rfl ?_ | refine And.intro (Or.inl rfl) ?_ | refine And.intro (Or.inr rfl) ?_ | refine And.intro (Nat.le_of_ble_eq_true rfl) ?_ | refine And.intro (And.intro rfl rfl) ?_ | exact rfl
      obtain ⟨r1, cr1, hr⟩ := Option.bind_eq_some_iff.mp hr
      refine Exists.intro _ (Exists.intro _ (And.intro (zr_X1_refresh_32__5 F I J d N  r1 cr1) ?_))
      repeat' first | refine And.intro rfl ?_ | refine And.intro (Or.inl rfl) ?_ | refine And.intro (Or.inr rfl) ?_ | refine And.intro (Nat.le_of_ble_eq_true rfl) ?_ | refine And.intro (And.intro rfl rfl) ?_ | exact rfl
      obtain ⟨r2, cr2, hr⟩ := Option.bind_eq_some_iff.mp hr
      refine Exists.intro _ (Exists.intro _ (And.intro (zr_X4_setCosts__32 F r1.2.1 J (d+2) N (r1.2.1 8 1) r2 cr2) ?_))
      repeat' first | refine And.intro rfl ?_ | refine And.intro (Or.inl rfl) ?_ | refine And.intro (Or.inr rfl) ?_ | refine And.intro (Nat.le_of_ble_eq_true rfl) ?_ | refine And.intro (And.intro rfl rfl) ?_ | exact rfl
      obtain ⟨r3, cr3, hr⟩ := Option.bind_eq_some_iff.mp hr
      refine Exists.intro _ (Exists.intro _ (And.intro (zr_X4_lay F r2.2.1 J (d+1) N (r2.2.1 8 2) r3 cr3) ?_))
      repeat' first | refine And.intro rfl ?_ | refine And.intro (Or.inl rfl) ?_ | refine And.intro (Or.inr rfl) ?_ | refine And.intro (Nat.le_of_ble_eq_true rfl) ?_ | refine And.intro (And.intro rfl rfl) ?_ | exact rfl
      cases hr
      repeat' first | refine And.intro rfl ?_ | refine And.intro (Or.inl rfl) ?_ | refine And.intro (Or.inr rfl) ?_ | refine And.intro (Nat.le_of_ble_eq_true rfl) ?_ | refine And.intro (And.intro rfl rfl) ?_ | exact rfl
theorem zr_X11_readyLoom__32 (F : zz_F) (I : Nat → Nat → Int32) (J : Nat → Nat → Int64) (d N : Nat)  (r : Int32 × (Nat → Nat → Int32) × (Nat → Nat → Int64)) (h : zf_X11_readyLoom__32 N  I J = some r) : zz_run (d+4) 198 0 [some (.ref 2), some (.ref 32)] [] (zz_S F I J) none (zz_S F (r.2.1) (J)) := (zq_X11_readyLoom__32 F d N N)  I J r h
